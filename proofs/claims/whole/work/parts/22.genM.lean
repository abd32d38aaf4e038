section GEN
def f_X11_thrown (S : jS) : Option (jR Unit) := some (0, (S 358 0), ())
abbrev rm_X11_thrown : Room := { frames := 0, cells := 0, slots := 0, locals := 0 }
set_option maxHeartbeats 4000000 in
set_option maxRecDepth 100000 in
theorem c_X11_thrown {l : Launch} {D : va_G} {B t0 : Nat} (hl9 : l.stackTraces = false) (S : jS) (X9 : jMem) (z : Nat → Prop) : jCf l D B t0 yX11_thrown cX11_thrown 1 (some .int) rm_X11_thrown [.ref (B + 358)] (memG 358 387 D B S X9) z (f_X11_thrown S) rvI (fun (S9 : Unit) M9 => M9 = memG 358 387 D B S X9) z := by
  refine jC_of hl9 (me_X11_thrown).1 [(0, .ref (B + 358))] ⟨by decide +kernel, Nat.le_of_ble_eq_true rfl⟩ rfl (fun κ hl hD hB hT X htab hin => ?_)
  subst hl hD hB hT
  have X : jX κ RX11 cX11_thrown 1 (some .int) := X
  unfold f_X11_thrown
  refine j_aload_n X 0 rfl dX11_thrown_0 rfl ?_
  refine g_getf X 0 kf_358 cf_X11 (by decide) fl_X11_95 dX11_thrown_1 rfl rfl ?_
  exact j_iret X dX11_thrown_4 rfl (fun _ h => h)
def f_X11_goesWell (S : jS) (p1 : Int32) : Option (jR jS) := letE (jset S 358 0 p1) fun S1 => joinK (fun (x3 : Int32) => chk (isb x3) (some (0, x3, S1))) (fun k2 => (if p1 = (0 : Int32) then k2 (1 : Int32) else k2 (0 : Int32)))
abbrev rm_X11_goesWell : Room := { frames := 0, cells := 0, slots := 0, locals := 0 }
set_option maxHeartbeats 4000000 in
set_option maxRecDepth 100000 in
theorem c_X11_goesWell {l : Launch} {D : va_G} {B t0 : Nat} (hl9 : l.stackTraces = false) (S : jS) (X9 : jMem) (z : Nat → Prop) (p1 : Int32) : jCf l D B t0 yX11_goesWell cX11_goesWell 2 (some .boolean) rm_X11_goesWell [.ref (B + 358), .int p1] (memG 358 387 D B S X9) z (f_X11_goesWell S p1) rvI (fun S9 M9 => M9 = memG 358 387 D B S9 X9) z := by
  refine jC_of hl9 (me_X11_goesWell).1 [(0, .ref (B + 358)), (1, .int p1)] ⟨by decide +kernel, Nat.le_of_ble_eq_true rfl⟩ rfl (fun κ hl hD hB hT X htab hin => ?_)
  subst hl hD hB hT
  have X : jX κ RX11 cX11_goesWell 2 (some .boolean) := X
  unfold f_X11_goesWell
  refine j_aload_n X 0 rfl dX11_goesWell_0 rfl ?_
  refine j_iload_n X 1 rfl dX11_goesWell_1 rfl ?_
  refine g_putf X 0 kf_358 cf_X11 (by decide) fl_X11_95 dX11_goesWell_2 rfl rfl rfl rfl (Nat.le_of_ble_eq_true rfl) rfl (fun S1 => ?_)
  refine j_iload_n X 1 rfl dX11_goesWell_5 rfl ?_
  refine j_join (fun k2 => ∀ (x3 : Int32), J κ 2 rm_X11_goesWell (jQf κ rm_X11_goesWell rvI (fun S9 M9 => M9 = memG 358 387 (kD κ) (kB κ) S9 X9) z) (k2 x3) (memG 358 387 (kD κ) (kB κ) S1 X9) z 0 0 [] 14 [.int x3]) ?_ (fun k2 hk2 => ?_)
  · intro x3
    exact j_zret X dX11_goesWell_14 rfl (fun _ h => h)
  · refine j_if_ne X 13 dX11_goesWell_6 (by decide) ?_ ?_
    · refine j_iconst X (1 : Int32) dX11_goesWell_9 (by rfl) ?_
      refine j_goto X 14 dX11_goesWell_10 (by decide) ?_
      refine j_lv [] rfl ?_
      exact hk2 (1 : Int32)
    · refine j_iconst X (0 : Int32) dX11_goesWell_13 (by rfl) ?_
      refine j_lv [] rfl ?_
      exact hk2 (0 : Int32)
def f_X11_in (p0 : Int32) (p1 : Int32) (p2 : Int32) : Option (jR Unit) := joinK (fun (x3 : Int32) => chk (isb x3) (some (0, x3, ()))) (fun k1 => joinK (fun (_ : Unit) => k1 (0 : Int32)) (fun k2 => (if p0 < p1 then k2 () else (if p2 < p0 then k2 () else k1 (1 : Int32)))))
abbrev rm_X11_in : Room := { frames := 0, cells := 0, slots := 0, locals := 0 }
set_option maxHeartbeats 4000000 in
set_option maxRecDepth 100000 in
theorem c_X11_in {l : Launch} {D : va_G} {B t0 : Nat} (hl9 : l.stackTraces = false) (M : jMem) (z : Nat → Prop) (p0 : Int32) (p1 : Int32) (p2 : Int32) : jCf l D B t0 yX11_in cX11_in 3 (some .boolean) rm_X11_in [.int p0, .int p1, .int p2] M z (f_X11_in p0 p1 p2) rvI (fun (S9 : Unit) M9 => M9 = M) z := by
  refine jC_of hl9 (me_X11_in).1 [(0, .int p0), (1, .int p1), (2, .int p2)] ⟨by decide +kernel, Nat.le_of_ble_eq_true rfl⟩ rfl (fun κ hl hD hB hT X htab hin => ?_)
  subst hl hD hB hT
  have X : jX κ RX11 cX11_in 3 (some .boolean) := X
  unfold f_X11_in
  refine j_iload_n X 0 rfl dX11_in_0 rfl ?_
  refine j_iload_n X 1 rfl dX11_in_1 rfl ?_
  refine j_join (fun k1 => ∀ (x3 : Int32), J κ 3 rm_X11_in (jQf κ rm_X11_in rvI (fun (S9 : Unit) M9 => M9 = M) z) (k1 x3) M z 0 0 [] 15 [.int x3]) ?_ (fun k1 hk1 => ?_)
  · intro x3
    exact j_zret X dX11_in_15 rfl (fun _ h => h)
  · refine j_join (fun k2 => ∀ (_ : Unit), J κ 3 rm_X11_in (jQf κ rm_X11_in rvI (fun (S9 : Unit) M9 => M9 = M) z) (k2 ()) M z 0 0 [] 14 []) ?_ (fun k2 hk2 => ?_)
    · intro _
      refine j_iconst X (0 : Int32) dX11_in_14 (by rfl) ?_
      exact hk1 (0 : Int32)
    · refine j_icmp_lt X 14 dX11_in_2 (by decide) ?_ ?_
      · refine j_lv [] rfl ?_
        exact hk2 ()
      · refine j_iload_n X 0 rfl dX11_in_5 rfl ?_
        refine j_iload_n X 2 rfl dX11_in_6 rfl ?_
        refine j_icmp_gt X 14 dX11_in_7 (by decide) ?_ ?_
        · refine j_lv [] rfl ?_
          exact hk2 ()
        · refine j_iconst X (1 : Int32) dX11_in_10 (by rfl) ?_
          refine j_goto X 15 dX11_in_11 (by decide) ?_
          refine j_lv [] rfl ?_
          exact hk1 (1 : Int32)
def f_X11_isPerson (p0 : Int32) : Option (jR Unit) := jbin0 (f_X11_in p0 (0 : Int32) (19 : Int32)) (fun v1 _ => chk (isb v1) (some (0, v1, ())))
abbrev rm_X11_isPerson : Room := { frames := 1, cells := 0, slots := 0, locals := 22 }
set_option maxHeartbeats 4000000 in
set_option maxRecDepth 100000 in
theorem c_X11_isPerson {l : Launch} {D : va_G} {B t0 : Nat} (hl9 : l.stackTraces = false) (M : jMem) (z : Nat → Prop) (p0 : Int32) : jCf l D B t0 yX11_isPerson cX11_isPerson 1 (some .boolean) rm_X11_isPerson [.int p0] M z (f_X11_isPerson p0) rvI (fun (S9 : Unit) M9 => M9 = M) z := by
  refine jC_of hl9 (me_X11_isPerson).1 [(0, .int p0)] ⟨by decide +kernel, Nat.le_of_ble_eq_true rfl⟩ rfl (fun κ hl hD hB hT X htab hin => ?_)
  subst hl hD hB hT
  have X : jX κ RX11 cX11_isPerson 1 (some .boolean) := X
  unfold f_X11_isPerson
  refine j_iload_n X 0 rfl dX11_isPerson_0 rfl ?_
  refine j_iconst X (0 : Int32) dX11_isPerson_1 (by rfl) ?_
  refine j_bipush X (19 : Int32) dX11_isPerson_2 (by rfl) ?_
  refine j_call0S X 0 0 (c_X11_in X.tr M z p0 (0 : Int32) (19 : Int32)) me_X11_in ml_X11_99 st_X11_in dX11_isPerson_4 (rest := []) rfl rfl (by decide) (by decide) (Nat.le_of_ble_eq_true rfl) (fun v1 u4 M3 hM2 => ?_)
  subst M3
  refine j_st (st1 := [.int v1]) rfl ?_
  exact j_zret X dX11_isPerson_7 rfl (fun _ h => h)
def f_X11_isAudience (p0 : Int32) : Option (jR Unit) := jbin0 (f_X11_in p0 (0 : Int32) (5 : Int32)) (fun v1 _ => chk (isb v1) (some (0, v1, ())))
abbrev rm_X11_isAudience : Room := { frames := 1, cells := 0, slots := 0, locals := 22 }
set_option maxHeartbeats 4000000 in
set_option maxRecDepth 100000 in
theorem c_X11_isAudience {l : Launch} {D : va_G} {B t0 : Nat} (hl9 : l.stackTraces = false) (M : jMem) (z : Nat → Prop) (p0 : Int32) : jCf l D B t0 yX11_isAudience cX11_isAudience 1 (some .boolean) rm_X11_isAudience [.int p0] M z (f_X11_isAudience p0) rvI (fun (S9 : Unit) M9 => M9 = M) z := by
  refine jC_of hl9 (me_X11_isAudience).1 [(0, .int p0)] ⟨by decide +kernel, Nat.le_of_ble_eq_true rfl⟩ rfl (fun κ hl hD hB hT X htab hin => ?_)
  subst hl hD hB hT
  have X : jX κ RX11 cX11_isAudience 1 (some .boolean) := X
  unfold f_X11_isAudience
  refine j_iload_n X 0 rfl dX11_isAudience_0 rfl ?_
  refine j_iconst X (0 : Int32) dX11_isAudience_1 (by rfl) ?_
  refine j_iconst X (5 : Int32) dX11_isAudience_2 (by rfl) ?_
  refine j_call0S X 0 0 (c_X11_in X.tr M z p0 (0 : Int32) (5 : Int32)) me_X11_in ml_X11_99 st_X11_in dX11_isAudience_3 (rest := []) rfl rfl (by decide) (by decide) (Nat.le_of_ble_eq_true rfl) (fun v1 u4 M3 hM2 => ?_)
  subst M3
  refine j_st (st1 := [.int v1]) rfl ?_
  exact j_zret X dX11_isAudience_6 rfl (fun _ h => h)
def f_X11_isFlag (p0 : Int32) : Option (jR Unit) := jbin0 (f_X11_in p0 (0 : Int32) (7 : Int32)) (fun v1 _ => chk (isb v1) (some (0, v1, ())))
abbrev rm_X11_isFlag : Room := { frames := 1, cells := 0, slots := 0, locals := 22 }
set_option maxHeartbeats 4000000 in
set_option maxRecDepth 100000 in
theorem c_X11_isFlag {l : Launch} {D : va_G} {B t0 : Nat} (hl9 : l.stackTraces = false) (M : jMem) (z : Nat → Prop) (p0 : Int32) : jCf l D B t0 yX11_isFlag cX11_isFlag 1 (some .boolean) rm_X11_isFlag [.int p0] M z (f_X11_isFlag p0) rvI (fun (S9 : Unit) M9 => M9 = M) z := by
  refine jC_of hl9 (me_X11_isFlag).1 [(0, .int p0)] ⟨by decide +kernel, Nat.le_of_ble_eq_true rfl⟩ rfl (fun κ hl hD hB hT X htab hin => ?_)
  subst hl hD hB hT
  have X : jX κ RX11 cX11_isFlag 1 (some .boolean) := X
  unfold f_X11_isFlag
  refine j_iload_n X 0 rfl dX11_isFlag_0 rfl ?_
  refine j_iconst X (0 : Int32) dX11_isFlag_1 (by rfl) ?_
  refine j_bipush X (7 : Int32) dX11_isFlag_2 (by rfl) ?_
  refine j_call0S X 0 0 (c_X11_in X.tr M z p0 (0 : Int32) (7 : Int32)) me_X11_in ml_X11_99 st_X11_in dX11_isFlag_4 (rest := []) rfl rfl (by decide) (by decide) (Nat.le_of_ble_eq_true rfl) (fun v1 u4 M3 hM2 => ?_)
  subst M3
  refine j_st (st1 := [.int v1]) rfl ?_
  exact j_zret X dX11_isFlag_7 rfl (fun _ h => h)
def f_X11_isTrial (p0 : Int32) : Option (jR Unit) := jbin0 (f_X11_in p0 (0 : Int32) (5 : Int32)) (fun v1 _ => chk (isb v1) (some (0, v1, ())))
abbrev rm_X11_isTrial : Room := { frames := 1, cells := 0, slots := 0, locals := 22 }
set_option maxHeartbeats 4000000 in
set_option maxRecDepth 100000 in
theorem c_X11_isTrial {l : Launch} {D : va_G} {B t0 : Nat} (hl9 : l.stackTraces = false) (M : jMem) (z : Nat → Prop) (p0 : Int32) : jCf l D B t0 yX11_isTrial cX11_isTrial 1 (some .boolean) rm_X11_isTrial [.int p0] M z (f_X11_isTrial p0) rvI (fun (S9 : Unit) M9 => M9 = M) z := by
  refine jC_of hl9 (me_X11_isTrial).1 [(0, .int p0)] ⟨by decide +kernel, Nat.le_of_ble_eq_true rfl⟩ rfl (fun κ hl hD hB hT X htab hin => ?_)
  subst hl hD hB hT
  have X : jX κ RX11 cX11_isTrial 1 (some .boolean) := X
  unfold f_X11_isTrial
  refine j_iload_n X 0 rfl dX11_isTrial_0 rfl ?_
  refine j_iconst X (0 : Int32) dX11_isTrial_1 (by rfl) ?_
  refine j_iconst X (5 : Int32) dX11_isTrial_2 (by rfl) ?_
  refine j_call0S X 0 0 (c_X11_in X.tr M z p0 (0 : Int32) (5 : Int32)) me_X11_in ml_X11_99 st_X11_in dX11_isTrial_3 (rest := []) rfl rfl (by decide) (by decide) (Nat.le_of_ble_eq_true rfl) (fun v1 u4 M3 hM2 => ?_)
  subst M3
  refine j_st (st1 := [.int v1]) rfl ?_
  exact j_zret X dX11_isTrial_6 rfl (fun _ h => h)
def f_X11_isVariant (p0 : Int32) : Option (jR Unit) := jbin0 (f_X11_in p0 (0 : Int32) (3 : Int32)) (fun v1 _ => chk (isb v1) (some (0, v1, ())))
abbrev rm_X11_isVariant : Room := { frames := 1, cells := 0, slots := 0, locals := 22 }
set_option maxHeartbeats 4000000 in
set_option maxRecDepth 100000 in
theorem c_X11_isVariant {l : Launch} {D : va_G} {B t0 : Nat} (hl9 : l.stackTraces = false) (M : jMem) (z : Nat → Prop) (p0 : Int32) : jCf l D B t0 yX11_isVariant cX11_isVariant 1 (some .boolean) rm_X11_isVariant [.int p0] M z (f_X11_isVariant p0) rvI (fun (S9 : Unit) M9 => M9 = M) z := by
  refine jC_of hl9 (me_X11_isVariant).1 [(0, .int p0)] ⟨by decide +kernel, Nat.le_of_ble_eq_true rfl⟩ rfl (fun κ hl hD hB hT X htab hin => ?_)
  subst hl hD hB hT
  have X : jX κ RX11 cX11_isVariant 1 (some .boolean) := X
  unfold f_X11_isVariant
  refine j_iload_n X 0 rfl dX11_isVariant_0 rfl ?_
  refine j_iconst X (0 : Int32) dX11_isVariant_1 (by rfl) ?_
  refine j_iconst X (3 : Int32) dX11_isVariant_2 (by rfl) ?_
  refine j_call0S X 0 0 (c_X11_in X.tr M z p0 (0 : Int32) (3 : Int32)) me_X11_in ml_X11_99 st_X11_in dX11_isVariant_3 (rest := []) rfl rfl (by decide) (by decide) (Nat.le_of_ble_eq_true rfl) (fun v1 u4 M3 hM2 => ?_)
  subst M3
  refine j_st (st1 := [.int v1]) rfl ?_
  exact j_zret X dX11_isVariant_6 rfl (fun _ h => h)
def f_X11_setAttribute (S : jS) (p1 : Int32) (p2 : Int32) (p3 : Int32) : Option (jR jS) := joinK (fun (x2 : Int32) => jbin0 (f_X11_isPerson p1) (fun v3 _ => joinK (fun (x14 : Int32) => jbin0 (f_X11_goesWell S x14) (fun v15 S16 => (if v15 = (0 : Int32) then some (0, (0 : Int32), S16) else chk (inb ((((3 : Int32) * p1) + p2)) 60) (letE ((S16 359 ((((3 : Int32) * p1) + p2)).toNatClampNeg)) fun x17 => chk (inb ((((3 : Int32) * p1) + p2)) 60) (letE (jset S16 359 ((((3 : Int32) * p1) + p2)).toNatClampNeg p3) fun S18 => some (0, x17, S18)))))) (fun k4 => joinK (fun (_ : Unit) => k4 (1 : Int32)) (fun k5 => (if v3 = (0 : Int32) then k5 () else jbin0 (f_X11_in p2 (0 : Int32) (2 : Int32)) (fun v6 _ => (if v6 = (0 : Int32) then k5 () else jbin0 (f_X11_in p3 (0 : Int32) x2) (fun v7 _ => (if v7 = (0 : Int32) then k5 () else k4 (0 : Int32)))))))))) (fun k1 => (if p2 = (0 : Int32) then k1 (9 : Int32) else (if p2 = (1 : Int32) then k1 (99 : Int32) else k1 (3 : Int32))))
abbrev rm_X11_setAttribute : Room := { frames := 2, cells := 0, slots := 0, locals := 42 }
set_option maxHeartbeats 4000000 in
set_option maxRecDepth 100000 in
theorem c_X11_setAttribute {l : Launch} {D : va_G} {B t0 : Nat} (hl9 : l.stackTraces = false) (S : jS) (X9 : jMem) (z : Nat → Prop) (p1 : Int32) (p2 : Int32) (p3 : Int32) : jCf l D B t0 yX11_setAttribute cX11_setAttribute 6 (some .int) rm_X11_setAttribute [.ref (B + 358), .int p1, .int p2, .int p3] (memG 358 387 D B S X9) z (f_X11_setAttribute S p1 p2 p3) rvI (fun S9 M9 => M9 = memG 358 387 D B S9 X9) z := by
  refine jC_of hl9 (me_X11_setAttribute).1 [(0, .ref (B + 358)), (1, .int p1), (2, .int p2), (3, .int p3)] ⟨by decide +kernel, Nat.le_of_ble_eq_true rfl⟩ rfl (fun κ hl hD hB hT X htab hin => ?_)
  subst hl hD hB hT
  have X : jX κ RX11 cX11_setAttribute 6 (some .int) := X
  unfold f_X11_setAttribute
  refine j_iload_n X 2 rfl dX11_setAttribute_0 rfl ?_
  refine j_join (fun k1 => ∀ (x2 : Int32), J κ 6 rm_X11_setAttribute (jQf κ rm_X11_setAttribute rvI (fun S9 M9 => M9 = memG 358 387 (kD κ) (kB κ) S9 X9) z) (k1 x2) (memG 358 387 (kD κ) (kB κ) S X9) z 0 0 [(0, .ref (kB κ + 358)), (1, .int p1), (2, .int p2), (3, .int p3)] 20 [.int x2]) ?_ (fun k1 hk1 => ?_)
  · intro x2
    refine j_istore X [(4, .int x2), (0, .ref (kB κ + 358)), (1, .int p1), (2, .int p2), (3, .int p3)] dX11_setAttribute_20 (by decide) rfl ?_
    refine j_aload_n X 1 rfl dX11_setAttribute_22 rfl ?_
    refine j_iload_n X 2 rfl dX11_setAttribute_23 rfl ?_
    refine j_call0S X 0 0 (c_X11_isPerson X.tr (memG 358 387 (kD κ) (kB κ) S X9) z p1) me_X11_isPerson ml_X11_103 st_X11_isPerson dX11_setAttribute_24 (rest := [.ref (kB κ + 358)]) rfl rfl (by decide) (by decide) (Nat.le_of_ble_eq_true rfl) (fun v3 u25 M24 hM23 => ?_)
    subst M24
    refine j_st (st1 := [.int v3, .ref (kB κ + 358)]) rfl ?_
    refine j_join (fun k4 => ∀ (x14 : Int32), J κ 6 rm_X11_setAttribute (jQf κ rm_X11_setAttribute rvI (fun S9 M9 => M9 = memG 358 387 (kD κ) (kB κ) S9 X9) z) (k4 x14) (memG 358 387 (kD κ) (kB κ) S X9) z 0 0 [(0, .ref (kB κ + 358)), (1, .int p1), (2, .int p2), (3, .int p3)] 54 [.int x14, .ref (kB κ + 358)]) ?_ (fun k4 hk4 => ?_)
    · intro x14
      refine j_call0V X 0 0 (c_X11_goesWell X.tr S X9 z x14) me_X11_goesWell ml_X11_107 iv_X11_goesWell cf_X11 dX11_setAttribute_54 (memG_at kf_358) (rest := []) rfl rfl (by decide) (by decide) (Nat.le_of_ble_eq_true rfl) (fun v15 S16 M22 hM21 => ?_)
      subst M22
      refine j_st (st1 := [.int v15]) rfl ?_
      refine j_if_ne X 62 dX11_setAttribute_57 (by decide) ?_ ?_
      · refine j_iconst X (0 : Int32) dX11_setAttribute_60 (by rfl) ?_
        exact j_iret X dX11_setAttribute_61 rfl (fun _ h => h)
      · refine j_aload_n X 0 rfl dX11_setAttribute_62 rfl ?_
        refine g_getf X 1 kf_358 cf_X11 (by decide) fl_X11_7 dX11_setAttribute_63 rfl rfl ?_
        refine j_iconst X (3 : Int32) dX11_setAttribute_66 (by rfl) ?_
        refine j_iload_n X 1 rfl dX11_setAttribute_67 rfl ?_
        refine j_imul X dX11_setAttribute_68 ?_
        refine j_iload_n X 2 rfl dX11_setAttribute_69 rfl ?_
        refine j_iadd X dX11_setAttribute_70 ?_
        refine g_iald X 60 kf_359 (by decide) dX11_setAttribute_71 (fun h20 => ?_)
        refine j_letE (fun x17 => ?_)
        refine j_istore X [(5, .int x17), (0, .ref (kB κ + 358)), (1, .int p1), (2, .int p2), (3, .int p3)] dX11_setAttribute_72 (by decide) rfl ?_
        refine j_aload_n X 1 rfl dX11_setAttribute_74 rfl ?_
        refine g_getf X 1 kf_358 cf_X11 (by decide) fl_X11_7 dX11_setAttribute_75 rfl rfl ?_
        refine j_iconst X (3 : Int32) dX11_setAttribute_78 (by rfl) ?_
        refine j_iload_n X 2 rfl dX11_setAttribute_79 rfl ?_
        refine j_imul X dX11_setAttribute_80 ?_
        refine j_iload_n X 3 rfl dX11_setAttribute_81 rfl ?_
        refine j_iadd X dX11_setAttribute_82 ?_
        refine j_iload_n X 4 rfl dX11_setAttribute_83 rfl ?_
        refine g_iast X 60 kf_359 (by decide) dX11_setAttribute_84 (fun h19 S18 => ?_)
        refine j_iload X 0 rfl dX11_setAttribute_85 ?_
        exact j_iret X dX11_setAttribute_87 rfl (fun _ h => h)
    · refine j_join (fun k5 => ∀ (_ : Unit), J κ 6 rm_X11_setAttribute (jQf κ rm_X11_setAttribute rvI (fun S9 M9 => M9 = memG 358 387 (kD κ) (kB κ) S9 X9) z) (k5 ()) (memG 358 387 (kD κ) (kB κ) S X9) z 0 0 [(0, .ref (kB κ + 358)), (1, .int p1), (2, .int p2), (3, .int p3)] 53 [.ref (kB κ + 358)]) ?_ (fun k5 hk5 => ?_)
      · intro _
        refine j_iconst X (1 : Int32) dX11_setAttribute_53 (by rfl) ?_
        exact hk4 (1 : Int32)
      · refine j_if_eq X 53 dX11_setAttribute_27 (by decide) ?_ ?_
        · refine j_lv [1, 2, 3, 4] rfl ?_
          exact hk5 ()
        · refine j_iload_n X 3 rfl dX11_setAttribute_30 rfl ?_
          refine j_iconst X (0 : Int32) dX11_setAttribute_31 (by rfl) ?_
          refine j_iconst X (2 : Int32) dX11_setAttribute_32 (by rfl) ?_
          refine j_call0S X 0 0 (c_X11_in X.tr (memG 358 387 (kD κ) (kB κ) S X9) z p2 (0 : Int32) (2 : Int32)) me_X11_in ml_X11_99 st_X11_in dX11_setAttribute_33 (rest := [.ref (kB κ + 358)]) rfl rfl (by decide) (by decide) (Nat.le_of_ble_eq_true rfl) (fun v6 u13 M12 hM11 => ?_)
          subst M12
          refine j_st (st1 := [.int v6, .ref (kB κ + 358)]) rfl ?_
          refine j_if_eq X 53 dX11_setAttribute_36 (by decide) ?_ ?_
          · refine j_lv [1, 2, 3, 4] rfl ?_
            exact hk5 ()
          · refine j_iload_n X 4 rfl dX11_setAttribute_39 rfl ?_
            refine j_iconst X (0 : Int32) dX11_setAttribute_40 (by rfl) ?_
            refine j_iload X 0 rfl dX11_setAttribute_41 ?_
            refine j_call0S X 0 0 (c_X11_in X.tr (memG 358 387 (kD κ) (kB κ) S X9) z p3 (0 : Int32) x2) me_X11_in ml_X11_99 st_X11_in dX11_setAttribute_43 (rest := [.ref (kB κ + 358)]) rfl rfl (by decide) (by decide) (Nat.le_of_ble_eq_true rfl) (fun v7 u10 M9 hM8 => ?_)
            subst M9
            refine j_st (st1 := [.int v7, .ref (kB κ + 358)]) rfl ?_
            refine j_if_eq X 53 dX11_setAttribute_46 (by decide) ?_ ?_
            · refine j_lv [1, 2, 3, 4] rfl ?_
              exact hk5 ()
            · refine j_iconst X (0 : Int32) dX11_setAttribute_49 (by rfl) ?_
              refine j_goto X 54 dX11_setAttribute_50 (by decide) ?_
              refine j_lv [1, 2, 3, 4] rfl ?_
              exact hk4 (0 : Int32)
  · refine j_if_ne X 9 dX11_setAttribute_1 (by decide) ?_ ?_
    · refine j_bipush X (9 : Int32) dX11_setAttribute_4 (by rfl) ?_
      refine j_goto X 20 dX11_setAttribute_6 (by decide) ?_
      exact hk1 (9 : Int32)
    · refine j_iload_n X 2 rfl dX11_setAttribute_9 rfl ?_
      refine j_iconst X (1 : Int32) dX11_setAttribute_10 (by rfl) ?_
      refine j_icmp_ne X 19 dX11_setAttribute_11 (by decide) ?_ ?_
      · refine j_bipush X (99 : Int32) dX11_setAttribute_14 (by rfl) ?_
        refine j_goto X 20 dX11_setAttribute_16 (by decide) ?_
        exact hk1 (99 : Int32)
      · refine j_iconst X (3 : Int32) dX11_setAttribute_19 (by rfl) ?_
        exact hk1 (3 : Int32)
def f_X11_setTag (S : jS) (p1 : Int32) (p2 : Int32) (p3 : Int32) : Option (jR jS) := jbin0 (f_X11_isPerson p1) (fun v1 _ => joinK (fun (x8 : Int32) => jbin0 (f_X11_goesWell S x8) (fun v9 S10 => (if v9 = (0 : Int32) then chk (isb (0 : Int32)) (some (0, (0 : Int32), S10)) else chk (inb p1 20) (joinK (fun (x12 : Int32) => joinK (fun (x16 : Int32) => chk (inb p1 20) (letE (jset S10 360 p1.toNatClampNeg x16) fun S17 => chk (isb x12) (some (0, x12, S17)))) (fun k13 => (if p3 = (0 : Int32) then chk (inb p1 20) (k13 (((S10 360 p1.toNatClampNeg) &&& (((1 : Int32) <<< (p2 &&& 31)) ^^^ (-1 : Int32))))) else chk (inb p1 20) (k13 (((S10 360 p1.toNatClampNeg) ||| ((1 : Int32) <<< (p2 &&& 31)))))))) (fun k11 => (if (((S10 360 p1.toNatClampNeg) >>> (p2 &&& 31)) &&& (1 : Int32)) = (1 : Int32) then k11 (1 : Int32) else k11 (0 : Int32))))))) (fun k2 => joinK (fun (_ : Unit) => k2 (1 : Int32)) (fun k3 => (if v1 = (0 : Int32) then k3 () else jbin0 (f_X11_in p2 (0 : Int32) (7 : Int32)) (fun v4 _ => (if v4 = (0 : Int32) then k3 () else k2 (0 : Int32)))))))
abbrev rm_X11_setTag : Room := { frames := 2, cells := 0, slots := 0, locals := 42 }
set_option maxHeartbeats 4000000 in
set_option maxRecDepth 100000 in
theorem c_X11_setTag {l : Launch} {D : va_G} {B t0 : Nat} (hl9 : l.stackTraces = false) (S : jS) (X9 : jMem) (z : Nat → Prop) (p1 : Int32) (p2 : Int32) (p3 : Int32) : jCf l D B t0 yX11_setTag cX11_setTag 5 (some .boolean) rm_X11_setTag [.ref (B + 358), .int p1, .int p2, .int p3] (memG 358 387 D B S X9) z (f_X11_setTag S p1 p2 p3) rvI (fun S9 M9 => M9 = memG 358 387 D B S9 X9) z := by
  refine jC_of hl9 (me_X11_setTag).1 [(0, .ref (B + 358)), (1, .int p1), (2, .int p2), (3, .int p3)] ⟨by decide +kernel, Nat.le_of_ble_eq_true rfl⟩ rfl (fun κ hl hD hB hT X htab hin => ?_)
  subst hl hD hB hT
  have X : jX κ RX11 cX11_setTag 5 (some .boolean) := X
  unfold f_X11_setTag
  refine j_aload_n X 0 rfl dX11_setTag_0 rfl ?_
  refine j_iload_n X 1 rfl dX11_setTag_1 rfl ?_
  refine j_call0S X 0 0 (c_X11_isPerson X.tr (memG 358 387 (kD κ) (kB κ) S X9) z p1) me_X11_isPerson ml_X11_103 st_X11_isPerson dX11_setTag_2 (rest := [.ref (kB κ + 358)]) rfl rfl (by decide) (by decide) (Nat.le_of_ble_eq_true rfl) (fun v1 u24 M23 hM22 => ?_)
  subst M23
  refine j_st (st1 := [.int v1, .ref (kB κ + 358)]) rfl ?_
  refine j_join (fun k2 => ∀ (x8 : Int32), J κ 5 rm_X11_setTag (jQf κ rm_X11_setTag rvI (fun S9 M9 => M9 = memG 358 387 (kD κ) (kB κ) S9 X9) z) (k2 x8) (memG 358 387 (kD κ) (kB κ) S X9) z 0 0 [(0, .ref (kB κ + 358)), (1, .int p1), (2, .int p2), (3, .int p3)] 23 [.int x8, .ref (kB κ + 358)]) ?_ (fun k2 hk2 => ?_)
  · intro x8
    refine j_call0V X 0 0 (c_X11_goesWell X.tr S X9 z x8) me_X11_goesWell ml_X11_107 iv_X11_goesWell cf_X11 dX11_setTag_23 (memG_at kf_358) (rest := []) rfl rfl (by decide) (by decide) (Nat.le_of_ble_eq_true rfl) (fun v9 S10 M21 hM20 => ?_)
    subst M21
    refine j_st (st1 := [.int v9]) rfl ?_
    refine j_if_ne X 31 dX11_setTag_26 (by decide) ?_ ?_
    · refine j_iconst X (0 : Int32) dX11_setTag_29 (by rfl) ?_
      exact j_zret X dX11_setTag_30 rfl (fun _ h => h)
    · refine j_aload_n X 0 rfl dX11_setTag_31 rfl ?_
      refine g_getf X 2 kf_358 cf_X11 (by decide) fl_X11_13 dX11_setTag_32 rfl rfl ?_
      refine j_iload_n X 1 rfl dX11_setTag_35 rfl ?_
      refine g_iald X 20 kf_360 (by decide) dX11_setTag_36 (fun h19 => ?_)
      refine j_iload_n X 2 rfl dX11_setTag_37 rfl ?_
      refine j_ishr X dX11_setTag_38 ?_
      refine j_iconst X (1 : Int32) dX11_setTag_39 (by rfl) ?_
      refine j_iand X dX11_setTag_40 ?_
      refine j_iconst X (1 : Int32) dX11_setTag_41 (by rfl) ?_
      refine j_join (fun k11 => ∀ (x12 : Int32), J κ 5 rm_X11_setTag (jQf κ rm_X11_setTag rvI (fun S9 M9 => M9 = memG 358 387 (kD κ) (kB κ) S9 X9) z) (k11 x12) (memG 358 387 (kD κ) (kB κ) S10 X9) z 0 0 [(0, .ref (kB κ + 358)), (1, .int p1), (2, .int p2), (3, .int p3)] 50 [.int x12]) ?_ (fun k11 hk11 => ?_)
      · intro x12
        refine j_istore X [(4, .int x12), (0, .ref (kB κ + 358)), (1, .int p1), (2, .int p2), (3, .int p3)] dX11_setTag_50 (by decide) rfl ?_
        refine j_aload_n X 1 rfl dX11_setTag_52 rfl ?_
        refine g_getf X 2 kf_358 cf_X11 (by decide) fl_X11_13 dX11_setTag_53 rfl rfl ?_
        refine j_iload_n X 2 rfl dX11_setTag_56 rfl ?_
        refine j_iload_n X 4 rfl dX11_setTag_57 rfl ?_
        refine j_join (fun k13 => ∀ (x16 : Int32), J κ 5 rm_X11_setTag (jQf κ rm_X11_setTag rvI (fun S9 M9 => M9 = memG 358 387 (kD κ) (kB κ) S9 X9) z) (k13 x16) (memG 358 387 (kD κ) (kB κ) S10 X9) z 0 0 [(4, .int x12)] 86 [.int x16, .int p1, .ref (kB κ + 360)]) ?_ (fun k13 hk13 => ?_)
        · intro x16
          refine g_iast X 20 kf_360 (by decide) dX11_setTag_86 (fun h18 S17 => ?_)
          refine j_iload X 0 rfl dX11_setTag_87 ?_
          exact j_zret X dX11_setTag_89 rfl (fun _ h => h)
        · refine j_if_eq X 74 dX11_setTag_58 (by decide) ?_ ?_
          · refine j_aload_n X 1 rfl dX11_setTag_74 rfl ?_
            refine g_getf X 2 kf_358 cf_X11 (by decide) fl_X11_13 dX11_setTag_75 rfl rfl ?_
            refine j_iload_n X 2 rfl dX11_setTag_78 rfl ?_
            refine g_iald X 20 kf_360 (by decide) dX11_setTag_79 (fun h14 => ?_)
            refine j_iconst X (1 : Int32) dX11_setTag_80 (by rfl) ?_
            refine j_iload_n X 3 rfl dX11_setTag_81 rfl ?_
            refine j_ishl X dX11_setTag_82 ?_
            refine j_iconst X (-1 : Int32) dX11_setTag_83 (by rfl) ?_
            refine j_ixor X dX11_setTag_84 ?_
            refine j_iand X dX11_setTag_85 ?_
            refine j_lv [0] rfl ?_
            exact hk13 (((S10 360 p1.toNatClampNeg) &&& (((1 : Int32) <<< (p2 &&& 31)) ^^^ (-1 : Int32))))
          · refine j_aload_n X 1 rfl dX11_setTag_61 rfl ?_
            refine g_getf X 2 kf_358 cf_X11 (by decide) fl_X11_13 dX11_setTag_62 rfl rfl ?_
            refine j_iload_n X 2 rfl dX11_setTag_65 rfl ?_
            refine g_iald X 20 kf_360 (by decide) dX11_setTag_66 (fun h15 => ?_)
            refine j_iconst X (1 : Int32) dX11_setTag_67 (by rfl) ?_
            refine j_iload_n X 3 rfl dX11_setTag_68 rfl ?_
            refine j_ishl X dX11_setTag_69 ?_
            refine j_ior X dX11_setTag_70 ?_
            refine j_goto X 86 dX11_setTag_71 (by decide) ?_
            refine j_lv [0] rfl ?_
            exact hk13 (((S10 360 p1.toNatClampNeg) ||| ((1 : Int32) <<< (p2 &&& 31))))
      · refine j_icmp_ne X 49 dX11_setTag_42 (by decide) ?_ ?_
        · refine j_iconst X (1 : Int32) dX11_setTag_45 (by rfl) ?_
          refine j_goto X 50 dX11_setTag_46 (by decide) ?_
          exact hk11 (1 : Int32)
        · refine j_iconst X (0 : Int32) dX11_setTag_49 (by rfl) ?_
          exact hk11 (0 : Int32)
  · refine j_join (fun k3 => ∀ (_ : Unit), J κ 5 rm_X11_setTag (jQf κ rm_X11_setTag rvI (fun S9 M9 => M9 = memG 358 387 (kD κ) (kB κ) S9 X9) z) (k3 ()) (memG 358 387 (kD κ) (kB κ) S X9) z 0 0 [(0, .ref (kB κ + 358)), (1, .int p1), (2, .int p2), (3, .int p3)] 22 [.ref (kB κ + 358)]) ?_ (fun k3 hk3 => ?_)
    · intro _
      refine j_iconst X (1 : Int32) dX11_setTag_22 (by rfl) ?_
      exact hk2 (1 : Int32)
    · refine j_if_eq X 22 dX11_setTag_5 (by decide) ?_ ?_
      · exact hk3 ()
      · refine j_iload_n X 2 rfl dX11_setTag_8 rfl ?_
        refine j_iconst X (0 : Int32) dX11_setTag_9 (by rfl) ?_
        refine j_bipush X (7 : Int32) dX11_setTag_10 (by rfl) ?_
        refine j_call0S X 0 0 (c_X11_in X.tr (memG 358 387 (kD κ) (kB κ) S X9) z p2 (0 : Int32) (7 : Int32)) me_X11_in ml_X11_99 st_X11_in dX11_setTag_12 (rest := [.ref (kB κ + 358)]) rfl rfl (by decide) (by decide) (Nat.le_of_ble_eq_true rfl) (fun v4 u7 M6 hM5 => ?_)
        subst M6
        refine j_st (st1 := [.int v4, .ref (kB κ + 358)]) rfl ?_
        refine j_if_eq X 22 dX11_setTag_15 (by decide) ?_ ?_
        · exact hk3 ()
        · refine j_iconst X (0 : Int32) dX11_setTag_18 (by rfl) ?_
          refine j_goto X 23 dX11_setTag_19 (by decide) ?_
          exact hk2 (0 : Int32)
def f_X11_type (S : jS) (p1 : Int32) (p2 : Int32) : Option (jR jS) := jbin0 (f_X11_isAudience p1) (fun v1 _ => joinK (fun (x8 : Int32) => joinK (fun (x11 : Int32) => jbin0 (f_X11_goesWell S x11) (fun v12 S13 => (if v12 = (0 : Int32) then some (0, (0 : Int32), S13) else chk (inb p1 6) (chk (inb ((((60 : Int32) * p1) + (S13 362 p1.toNatClampNeg))) 360) (letE (jset S13 361 ((((60 : Int32) * p1) + (S13 362 p1.toNatClampNeg))).toNatClampNeg p2) fun S14 => chk (inb p1 6) (chk (inb p1 6) (letE (jset S14 362 p1.toNatClampNeg (((S14 362 p1.toNatClampNeg) + (1 : Int32)))) fun S15 => chk (inb p1 6) (some (0, (S15 362 p1.toNatClampNeg), S15))))))))) (fun k9 => (if x8 = (0 : Int32) then k9 (1 : Int32) else chk (inb p1 6) ((if (S 362 p1.toNatClampNeg) = (60 : Int32) then k9 (2 : Int32) else k9 (0 : Int32)))))) (fun k2 => joinK (fun (_ : Unit) => k2 (0 : Int32)) (fun k3 => (if v1 = (0 : Int32) then k3 () else jbin0 (f_X11_in p2 (33 : Int32) (126 : Int32)) (fun v4 _ => (if v4 = (0 : Int32) then k3 () else k2 (1 : Int32)))))))
abbrev rm_X11_type : Room := { frames := 2, cells := 0, slots := 0, locals := 42 }
set_option maxHeartbeats 4000000 in
set_option maxRecDepth 100000 in
theorem c_X11_type {l : Launch} {D : va_G} {B t0 : Nat} (hl9 : l.stackTraces = false) (S : jS) (X9 : jMem) (z : Nat → Prop) (p1 : Int32) (p2 : Int32) : jCf l D B t0 yX11_type cX11_type 4 (some .int) rm_X11_type [.ref (B + 358), .int p1, .int p2] (memG 358 387 D B S X9) z (f_X11_type S p1 p2) rvI (fun S9 M9 => M9 = memG 358 387 D B S9 X9) z := by
  refine jC_of hl9 (me_X11_type).1 [(0, .ref (B + 358)), (1, .int p1), (2, .int p2)] ⟨by decide +kernel, Nat.le_of_ble_eq_true rfl⟩ rfl (fun κ hl hD hB hT X htab hin => ?_)
  subst hl hD hB hT
  have X : jX κ RX11 cX11_type 4 (some .int) := X
  unfold f_X11_type
  refine j_iload_n X 1 rfl dX11_type_0 rfl ?_
  refine j_call0S X 0 0 (c_X11_isAudience X.tr (memG 358 387 (kD κ) (kB κ) S X9) z p1) me_X11_isAudience ml_X11_110 st_X11_isAudience dX11_type_1 (rest := []) rfl rfl (by decide) (by decide) (Nat.le_of_ble_eq_true rfl) (fun v1 u25 M24 hM23 => ?_)
  subst M24
  refine j_st (st1 := [.int v1]) rfl ?_
  refine j_join (fun k2 => ∀ (x8 : Int32), J κ 4 rm_X11_type (jQf κ rm_X11_type rvI (fun S9 M9 => M9 = memG 358 387 (kD κ) (kB κ) S9 X9) z) (k2 x8) (memG 358 387 (kD κ) (kB κ) S X9) z 0 0 [(0, .ref (kB κ + 358)), (1, .int p1), (2, .int p2)] 23 [.int x8]) ?_ (fun k2 hk2 => ?_)
  · intro x8
    refine j_istore_n X [(3, .int x8), (0, .ref (kB κ + 358)), (1, .int p1), (2, .int p2)] dX11_type_23 rfl (by decide) rfl ?_
    refine j_aload_n X 1 rfl dX11_type_24 rfl ?_
    refine j_iload_n X 0 rfl dX11_type_25 rfl ?_
    refine j_join (fun k9 => ∀ (x11 : Int32), J κ 4 rm_X11_type (jQf κ rm_X11_type rvI (fun S9 M9 => M9 = memG 358 387 (kD κ) (kB κ) S9 X9) z) (k9 x11) (memG 358 387 (kD κ) (kB κ) S X9) z 0 0 [(0, .ref (kB κ + 358)), (1, .int p1), (2, .int p2)] 49 [.int x11, .ref (kB κ + 358)]) ?_ (fun k9 hk9 => ?_)
    · intro x11
      refine j_call0V X 0 0 (c_X11_goesWell X.tr S X9 z x11) me_X11_goesWell ml_X11_107 iv_X11_goesWell cf_X11 dX11_type_49 (memG_at kf_358) (rest := []) rfl rfl (by decide) (by decide) (Nat.le_of_ble_eq_true rfl) (fun v12 S13 M22 hM21 => ?_)
      subst M22
      refine j_st (st1 := [.int v12]) rfl ?_
      refine j_if_ne X 57 dX11_type_52 (by decide) ?_ ?_
      · refine j_iconst X (0 : Int32) dX11_type_55 (by rfl) ?_
        exact j_iret X dX11_type_56 rfl (fun _ h => h)
      · refine j_aload_n X 0 rfl dX11_type_57 rfl ?_
        refine g_getf X 3 kf_358 cf_X11 (by decide) fl_X11_16 dX11_type_58 rfl rfl ?_
        refine j_bipush X (60 : Int32) dX11_type_61 (by rfl) ?_
        refine j_iload_n X 1 rfl dX11_type_63 rfl ?_
        refine j_imul X dX11_type_64 ?_
        refine j_aload_n X 0 rfl dX11_type_65 rfl ?_
        refine g_getf X 4 kf_358 cf_X11 (by decide) fl_X11_19 dX11_type_66 rfl rfl ?_
        refine j_iload_n X 1 rfl dX11_type_69 rfl ?_
        refine g_iald X 6 kf_362 (by decide) dX11_type_70 (fun h20 => ?_)
        refine j_iadd X dX11_type_71 ?_
        refine j_iload_n X 2 rfl dX11_type_72 rfl ?_
        refine g_iast X 360 kf_361 (by decide) dX11_type_73 (fun h19 S14 => ?_)
        refine j_aload_n X 0 rfl dX11_type_74 rfl ?_
        refine g_getf X 4 kf_358 cf_X11 (by decide) fl_X11_19 dX11_type_75 rfl rfl ?_
        refine j_iload_n X 1 rfl dX11_type_78 rfl ?_
        refine j_dup2 X dX11_type_79 rfl rfl ?_
        refine g_iald X 6 kf_362 (by decide) dX11_type_80 (fun h18 => ?_)
        refine j_iconst X (1 : Int32) dX11_type_81 (by rfl) ?_
        refine j_iadd X dX11_type_82 ?_
        refine g_iast X 6 kf_362 (by decide) dX11_type_83 (fun h17 S15 => ?_)
        refine j_aload_n X 0 rfl dX11_type_84 rfl ?_
        refine g_getf X 4 kf_358 cf_X11 (by decide) fl_X11_19 dX11_type_85 rfl rfl ?_
        refine j_iload_n X 1 rfl dX11_type_88 rfl ?_
        refine g_iald X 6 kf_362 (by decide) dX11_type_89 (fun h16 => ?_)
        exact j_iret X dX11_type_90 rfl (fun _ h => h)
    · refine j_if_ne X 33 dX11_type_26 (by decide) ?_ ?_
      · refine j_iconst X (1 : Int32) dX11_type_29 (by rfl) ?_
        refine j_goto X 49 dX11_type_30 (by decide) ?_
        refine j_lv [1, 2, 3] rfl ?_
        exact hk9 (1 : Int32)
      · refine j_aload_n X 1 rfl dX11_type_33 rfl ?_
        refine g_getf X 4 kf_358 cf_X11 (by decide) fl_X11_19 dX11_type_34 rfl rfl ?_
        refine j_iload_n X 2 rfl dX11_type_37 rfl ?_
        refine g_iald X 6 kf_362 (by decide) dX11_type_38 (fun h10 => ?_)
        refine j_bipush X (60 : Int32) dX11_type_39 (by rfl) ?_
        refine j_icmp_ne X 48 dX11_type_41 (by decide) ?_ ?_
        · refine j_iconst X (2 : Int32) dX11_type_44 (by rfl) ?_
          refine j_goto X 49 dX11_type_45 (by decide) ?_
          refine j_lv [1, 2, 3] rfl ?_
          exact hk9 (2 : Int32)
        · refine j_iconst X (0 : Int32) dX11_type_48 (by rfl) ?_
          refine j_lv [1, 2, 3] rfl ?_
          exact hk9 (0 : Int32)
  · refine j_join (fun k3 => ∀ (_ : Unit), J κ 4 rm_X11_type (jQf κ rm_X11_type rvI (fun S9 M9 => M9 = memG 358 387 (kD κ) (kB κ) S9 X9) z) (k3 ()) (memG 358 387 (kD κ) (kB κ) S X9) z 0 0 [(0, .ref (kB κ + 358)), (1, .int p1), (2, .int p2)] 22 []) ?_ (fun k3 hk3 => ?_)
    · intro _
      refine j_iconst X (0 : Int32) dX11_type_22 (by rfl) ?_
      exact hk2 (0 : Int32)
    · refine j_if_eq X 22 dX11_type_4 (by decide) ?_ ?_
      · exact hk3 ()
      · refine j_iload_n X 2 rfl dX11_type_7 rfl ?_
        refine j_bipush X (33 : Int32) dX11_type_8 (by rfl) ?_
        refine j_bipush X (126 : Int32) dX11_type_10 (by rfl) ?_
        refine j_call0S X 0 0 (c_X11_in X.tr (memG 358 387 (kD κ) (kB κ) S X9) z p2 (33 : Int32) (126 : Int32)) me_X11_in ml_X11_99 st_X11_in dX11_type_12 (rest := []) rfl rfl (by decide) (by decide) (Nat.le_of_ble_eq_true rfl) (fun v4 u7 M6 hM5 => ?_)
        subst M6
        refine j_st (st1 := [.int v4]) rfl ?_
        refine j_if_eq X 22 dX11_type_15 (by decide) ?_ ?_
        · exact hk3 ()
        · refine j_iconst X (1 : Int32) dX11_type_18 (by rfl) ?_
          refine j_goto X 23 dX11_type_19 (by decide) ?_
          exact hk2 (1 : Int32)
def f_X11_erase (S : jS) (p1 : Int32) (p2 : Int32) : Option (jR jS) := jbin0 (f_X11_isAudience p1) (fun v1 _ => joinK (fun (x4 : Int32) => jbin0 (f_X11_goesWell S x4) (fun v5 S6 => (if v5 = (0 : Int32) then some (0, (0 : Int32), S6) else chk (inb p1 6) (joinK (fun (x9 : Int32) => chk (inb p1 6) (letE (jset S6 362 p1.toNatClampNeg x9) fun S10 => chk (inb p1 6) (some (0, (S10 362 p1.toNatClampNeg), S10)))) (fun k7 => (if (S6 362 p1.toNatClampNeg) ≤ p2 then k7 (0 : Int32) else chk (inb p1 6) (k7 (((S6 362 p1.toNatClampNeg) - p2))))))))) (fun k2 => joinK (fun (_ : Unit) => k2 (1 : Int32)) (fun k3 => (if v1 = (0 : Int32) then k3 () else (if p2 < (1 : Int32) then k3 () else k2 (0 : Int32))))))
abbrev rm_X11_erase : Room := { frames := 2, cells := 0, slots := 0, locals := 42 }
set_option maxHeartbeats 4000000 in
set_option maxRecDepth 100000 in
theorem c_X11_erase {l : Launch} {D : va_G} {B t0 : Nat} (hl9 : l.stackTraces = false) (S : jS) (X9 : jMem) (z : Nat → Prop) (p1 : Int32) (p2 : Int32) : jCf l D B t0 yX11_erase cX11_erase 3 (some .int) rm_X11_erase [.ref (B + 358), .int p1, .int p2] (memG 358 387 D B S X9) z (f_X11_erase S p1 p2) rvI (fun S9 M9 => M9 = memG 358 387 D B S9 X9) z := by
  refine jC_of hl9 (me_X11_erase).1 [(0, .ref (B + 358)), (1, .int p1), (2, .int p2)] ⟨by decide +kernel, Nat.le_of_ble_eq_true rfl⟩ rfl (fun κ hl hD hB hT X htab hin => ?_)
  subst hl hD hB hT
  have X : jX κ RX11 cX11_erase 3 (some .int) := X
  unfold f_X11_erase
  refine j_aload_n X 0 rfl dX11_erase_0 rfl ?_
  refine j_iload_n X 1 rfl dX11_erase_1 rfl ?_
  refine j_call0S X 0 0 (c_X11_isAudience X.tr (memG 358 387 (kD κ) (kB κ) S X9) z p1) me_X11_isAudience ml_X11_110 st_X11_isAudience dX11_erase_2 (rest := [.ref (kB κ + 358)]) rfl rfl (by decide) (by decide) (Nat.le_of_ble_eq_true rfl) (fun v1 u18 M17 hM16 => ?_)
  subst M17
  refine j_st (st1 := [.int v1, .ref (kB κ + 358)]) rfl ?_
  refine j_join (fun k2 => ∀ (x4 : Int32), J κ 3 rm_X11_erase (jQf κ rm_X11_erase rvI (fun S9 M9 => M9 = memG 358 387 (kD κ) (kB κ) S9 X9) z) (k2 x4) (memG 358 387 (kD κ) (kB κ) S X9) z 0 0 [(0, .ref (kB κ + 358)), (1, .int p1), (2, .int p2)] 18 [.int x4, .ref (kB κ + 358)]) ?_ (fun k2 hk2 => ?_)
  · intro x4
    refine j_call0V X 0 0 (c_X11_goesWell X.tr S X9 z x4) me_X11_goesWell ml_X11_107 iv_X11_goesWell cf_X11 dX11_erase_18 (memG_at kf_358) (rest := []) rfl rfl (by decide) (by decide) (Nat.le_of_ble_eq_true rfl) (fun v5 S6 M15 hM14 => ?_)
    subst M15
    refine j_st (st1 := [.int v5]) rfl ?_
    refine j_if_ne X 26 dX11_erase_21 (by decide) ?_ ?_
    · refine j_iconst X (0 : Int32) dX11_erase_24 (by rfl) ?_
      exact j_iret X dX11_erase_25 rfl (fun _ h => h)
    · refine j_aload_n X 0 rfl dX11_erase_26 rfl ?_
      refine g_getf X 4 kf_358 cf_X11 (by decide) fl_X11_19 dX11_erase_27 rfl rfl ?_
      refine j_iload_n X 1 rfl dX11_erase_30 rfl ?_
      refine j_iload_n X 2 rfl dX11_erase_31 rfl ?_
      refine j_aload_n X 0 rfl dX11_erase_32 rfl ?_
      refine g_getf X 4 kf_358 cf_X11 (by decide) fl_X11_19 dX11_erase_33 rfl rfl ?_
      refine j_iload_n X 1 rfl dX11_erase_36 rfl ?_
      refine g_iald X 6 kf_362 (by decide) dX11_erase_37 (fun h13 => ?_)
      refine j_join (fun k7 => ∀ (x9 : Int32), J κ 3 rm_X11_erase (jQf κ rm_X11_erase rvI (fun S9 M9 => M9 = memG 358 387 (kD κ) (kB κ) S9 X9) z) (k7 x9) (memG 358 387 (kD κ) (kB κ) S6 X9) z 0 0 [(0, .ref (kB κ + 358)), (1, .int p1)] 53 [.int x9, .int p1, .ref (kB κ + 362)]) ?_ (fun k7 hk7 => ?_)
      · intro x9
        refine g_iast X 6 kf_362 (by decide) dX11_erase_53 (fun h12 S10 => ?_)
        refine j_aload_n X 0 rfl dX11_erase_54 rfl ?_
        refine g_getf X 4 kf_358 cf_X11 (by decide) fl_X11_19 dX11_erase_55 rfl rfl ?_
        refine j_iload_n X 1 rfl dX11_erase_58 rfl ?_
        refine g_iald X 6 kf_362 (by decide) dX11_erase_59 (fun h11 => ?_)
        exact j_iret X dX11_erase_60 rfl (fun _ h => h)
      · refine j_icmp_ge X 52 dX11_erase_38 (by decide) ?_ ?_
        · refine j_iconst X (0 : Int32) dX11_erase_52 (by rfl) ?_
          refine j_lv [0, 1] rfl ?_
          exact hk7 (0 : Int32)
        · refine j_aload_n X 0 rfl dX11_erase_41 rfl ?_
          refine g_getf X 4 kf_358 cf_X11 (by decide) fl_X11_19 dX11_erase_42 rfl rfl ?_
          refine j_iload_n X 1 rfl dX11_erase_45 rfl ?_
          refine g_iald X 6 kf_362 (by decide) dX11_erase_46 (fun h8 => ?_)
          refine j_iload_n X 2 rfl dX11_erase_47 rfl ?_
          refine j_isub X dX11_erase_48 ?_
          refine j_goto X 53 dX11_erase_49 (by decide) ?_
          refine j_lv [0, 1] rfl ?_
          exact hk7 (((S6 362 p1.toNatClampNeg) - p2))
  · refine j_join (fun k3 => ∀ (_ : Unit), J κ 3 rm_X11_erase (jQf κ rm_X11_erase rvI (fun S9 M9 => M9 = memG 358 387 (kD κ) (kB κ) S9 X9) z) (k3 ()) (memG 358 387 (kD κ) (kB κ) S X9) z 0 0 [(0, .ref (kB κ + 358)), (1, .int p1), (2, .int p2)] 17 [.ref (kB κ + 358)]) ?_ (fun k3 hk3 => ?_)
    · intro _
      refine j_iconst X (1 : Int32) dX11_erase_17 (by rfl) ?_
      exact hk2 (1 : Int32)
    · refine j_if_eq X 17 dX11_erase_5 (by decide) ?_ ?_
      · exact hk3 ()
      · refine j_iload_n X 2 rfl dX11_erase_8 rfl ?_
        refine j_iconst X (1 : Int32) dX11_erase_9 (by rfl) ?_
        refine j_icmp_lt X 17 dX11_erase_10 (by decide) ?_ ?_
        · exact hk3 ()
        · refine j_iconst X (0 : Int32) dX11_erase_13 (by rfl) ?_
          refine j_goto X 18 dX11_erase_14 (by decide) ?_
          exact hk2 (0 : Int32)
def f_X11_sign (S : jS) (p1 : Int32) (p2 : Int32) : Option (jR jS) := jbin0 (f_X11_isAudience p1) (fun v1 _ => joinK (fun (x8 : Int32) => jbin0 (f_X11_goesWell S x8) (fun v9 S10 => (if v9 = (0 : Int32) then some (0, (0 : Int32), S10) else chk (inb ((((60 : Int32) * p1) + p2)) 360) (some (0, (S10 361 ((((60 : Int32) * p1) + p2)).toNatClampNeg), S10))))) (fun k2 => (if v1 = (0 : Int32) then k2 (1 : Int32) else chk (inb p1 6) (jbin0 (f_X11_in p2 (0 : Int32) (((S 362 p1.toNatClampNeg) - (1 : Int32)))) (fun v3 _ => (if v3 = (0 : Int32) then k2 (2 : Int32) else k2 (0 : Int32)))))))
abbrev rm_X11_sign : Room := { frames := 2, cells := 0, slots := 0, locals := 42 }
set_option maxHeartbeats 4000000 in
set_option maxRecDepth 100000 in
theorem c_X11_sign {l : Launch} {D : va_G} {B t0 : Nat} (hl9 : l.stackTraces = false) (S : jS) (X9 : jMem) (z : Nat → Prop) (p1 : Int32) (p2 : Int32) : jCf l D B t0 yX11_sign cX11_sign 4 (some .int) rm_X11_sign [.ref (B + 358), .int p1, .int p2] (memG 358 387 D B S X9) z (f_X11_sign S p1 p2) rvI (fun S9 M9 => M9 = memG 358 387 D B S9 X9) z := by
  refine jC_of hl9 (me_X11_sign).1 [(0, .ref (B + 358)), (1, .int p1), (2, .int p2)] ⟨by decide +kernel, Nat.le_of_ble_eq_true rfl⟩ rfl (fun κ hl hD hB hT X htab hin => ?_)
  subst hl hD hB hT
  have X : jX κ RX11 cX11_sign 4 (some .int) := X
  unfold f_X11_sign
  refine j_iload_n X 1 rfl dX11_sign_0 rfl ?_
  refine j_call0S X 0 0 (c_X11_isAudience X.tr (memG 358 387 (kD κ) (kB κ) S X9) z p1) me_X11_isAudience ml_X11_110 st_X11_isAudience dX11_sign_1 (rest := []) rfl rfl (by decide) (by decide) (Nat.le_of_ble_eq_true rfl) (fun v1 u16 M15 hM14 => ?_)
  subst M15
  refine j_st (st1 := [.int v1]) rfl ?_
  refine j_istore_n X [(3, .int v1), (0, .ref (kB κ + 358)), (1, .int p1), (2, .int p2)] dX11_sign_4 rfl (by decide) rfl ?_
  refine j_aload_n X 1 rfl dX11_sign_5 rfl ?_
  refine j_iload_n X 0 rfl dX11_sign_6 rfl ?_
  refine j_join (fun k2 => ∀ (x8 : Int32), J κ 4 rm_X11_sign (jQf κ rm_X11_sign rvI (fun S9 M9 => M9 = memG 358 387 (kD κ) (kB κ) S9 X9) z) (k2 x8) (memG 358 387 (kD κ) (kB κ) S X9) z 0 0 [(0, .ref (kB κ + 358)), (1, .int p1), (2, .int p2)] 35 [.int x8, .ref (kB κ + 358)]) ?_ (fun k2 hk2 => ?_)
  · intro x8
    refine j_call0V X 0 0 (c_X11_goesWell X.tr S X9 z x8) me_X11_goesWell ml_X11_107 iv_X11_goesWell cf_X11 dX11_sign_35 (memG_at kf_358) (rest := []) rfl rfl (by decide) (by decide) (Nat.le_of_ble_eq_true rfl) (fun v9 S10 M13 hM12 => ?_)
    subst M13
    refine j_st (st1 := [.int v9]) rfl ?_
    refine j_if_ne X 43 dX11_sign_38 (by decide) ?_ ?_
    · refine j_iconst X (0 : Int32) dX11_sign_41 (by rfl) ?_
      exact j_iret X dX11_sign_42 rfl (fun _ h => h)
    · refine j_aload_n X 0 rfl dX11_sign_43 rfl ?_
      refine g_getf X 3 kf_358 cf_X11 (by decide) fl_X11_16 dX11_sign_44 rfl rfl ?_
      refine j_bipush X (60 : Int32) dX11_sign_47 (by rfl) ?_
      refine j_iload_n X 1 rfl dX11_sign_49 rfl ?_
      refine j_imul X dX11_sign_50 ?_
      refine j_iload_n X 2 rfl dX11_sign_51 rfl ?_
      refine j_iadd X dX11_sign_52 ?_
      refine g_iald X 360 kf_361 (by decide) dX11_sign_53 (fun h11 => ?_)
      exact j_iret X dX11_sign_54 rfl (fun _ h => h)
  · refine j_if_ne X 14 dX11_sign_7 (by decide) ?_ ?_
    · refine j_iconst X (1 : Int32) dX11_sign_10 (by rfl) ?_
      refine j_goto X 35 dX11_sign_11 (by decide) ?_
      refine j_lv [1, 2, 3] rfl ?_
      exact hk2 (1 : Int32)
    · refine j_iload_n X 3 rfl dX11_sign_14 rfl ?_
      refine j_iconst X (0 : Int32) dX11_sign_15 (by rfl) ?_
      refine j_aload_n X 1 rfl dX11_sign_16 rfl ?_
      refine g_getf X 4 kf_358 cf_X11 (by decide) fl_X11_19 dX11_sign_17 rfl rfl ?_
      refine j_iload_n X 2 rfl dX11_sign_20 rfl ?_
      refine g_iald X 6 kf_362 (by decide) dX11_sign_21 (fun h7 => ?_)
      refine j_iconst X (1 : Int32) dX11_sign_22 (by rfl) ?_
      refine j_isub X dX11_sign_23 ?_
      refine j_call0S X 0 0 (c_X11_in X.tr (memG 358 387 (kD κ) (kB κ) S X9) z p2 (0 : Int32) (((S 362 p1.toNatClampNeg) - (1 : Int32)))) me_X11_in ml_X11_99 st_X11_in dX11_sign_24 (rest := [.ref (kB κ + 358)]) rfl rfl (by decide) (by decide) (Nat.le_of_ble_eq_true rfl) (fun v3 u6 M5 hM4 => ?_)
      subst M5
      refine j_st (st1 := [.int v3, .ref (kB κ + 358)]) rfl ?_
      refine j_if_eq X 34 dX11_sign_27 (by decide) ?_ ?_
      · refine j_iconst X (2 : Int32) dX11_sign_34 (by rfl) ?_
        refine j_lv [1, 2, 3] rfl ?_
        exact hk2 (2 : Int32)
      · refine j_iconst X (0 : Int32) dX11_sign_30 (by rfl) ?_
        refine j_goto X 35 dX11_sign_31 (by decide) ?_
        refine j_lv [1, 2, 3] rfl ?_
        exact hk2 (0 : Int32)
def f_X11_isDigit (p0 : Int32) : Option (jR Unit) := jbin0 (f_X11_in p0 (48 : Int32) (57 : Int32)) (fun v1 _ => chk (isb v1) (some (0, v1, ())))
abbrev rm_X11_isDigit : Room := { frames := 1, cells := 0, slots := 0, locals := 22 }
set_option maxHeartbeats 4000000 in
set_option maxRecDepth 100000 in
theorem c_X11_isDigit {l : Launch} {D : va_G} {B t0 : Nat} (hl9 : l.stackTraces = false) (M : jMem) (z : Nat → Prop) (p0 : Int32) : jCf l D B t0 yX11_isDigit cX11_isDigit 1 (some .boolean) rm_X11_isDigit [.int p0] M z (f_X11_isDigit p0) rvI (fun (S9 : Unit) M9 => M9 = M) z := by
  refine jC_of hl9 (me_X11_isDigit).1 [(0, .int p0)] ⟨by decide +kernel, Nat.le_of_ble_eq_true rfl⟩ rfl (fun κ hl hD hB hT X htab hin => ?_)
  subst hl hD hB hT
  have X : jX κ RX11 cX11_isDigit 1 (some .boolean) := X
  unfold f_X11_isDigit
  refine j_iload_n X 0 rfl dX11_isDigit_0 rfl ?_
  refine j_bipush X (48 : Int32) dX11_isDigit_1 (by rfl) ?_
  refine j_bipush X (57 : Int32) dX11_isDigit_3 (by rfl) ?_
  refine j_call0S X 0 0 (c_X11_in X.tr M z p0 (48 : Int32) (57 : Int32)) me_X11_in ml_X11_99 st_X11_in dX11_isDigit_5 (rest := []) rfl rfl (by decide) (by decide) (Nat.le_of_ble_eq_true rfl) (fun v1 u4 M3 hM2 => ?_)
  subst M3
  refine j_st (st1 := [.int v1]) rfl ?_
  exact j_zret X dX11_isDigit_8 rfl (fun _ h => h)
def f_X11_behind (p0 : Int32) (p1 : Int32) (p2 : Int32) : Option (jR Unit) := (if p1 = (0 : Int32) then joinK (fun (x31 : Int32) => joinK (fun (x34 : Int32) => joinK (fun (x36 : Int32) => some (0, x36, ())) (fun k35 => (if x31 = (0 : Int32) then (if p0 = (42 : Int32) then k35 (6 : Int32) else (if x34 = (0 : Int32) then (if p0 = (116 : Int32) then k35 (4 : Int32) else (if p0 = (64 : Int32) then k35 (5 : Int32) else k35 (-1 : Int32))) else k35 (1 : Int32))) else k35 (0 : Int32)))) (fun k32 => joinK (fun (_ : Unit) => k32 (1 : Int32)) (fun k33 => (if p0 = (108 : Int32) then k33 () else (if p0 = (97 : Int32) then k33 () else (if p0 = (112 : Int32) then k33 () else k32 (0 : Int32))))))) (fun k28 => joinK (fun (_ : Unit) => k28 (1 : Int32)) (fun k29 => (if p0 = (33 : Int32) then k29 () else joinK (fun (_ : Unit) => k28 (0 : Int32)) (fun k30 => (if p0 = (40 : Int32) then (if (8 : Int32) ≤ p2 then k30 () else k29 ()) else k30 ()))))) else (if p1 = (1 : Int32) then joinK (fun (x27 : Int32) => some (0, x27, ())) (fun k25 => joinK (fun (_ : Unit) => k25 (2 : Int32)) (fun k26 => (if p0 = (61 : Int32) then k26 () else (if p0 = (60 : Int32) then k26 () else (if p0 = (62 : Int32) then k26 () else k25 (-1 : Int32)))))) else (if p1 = (2 : Int32) then jbin0 (f_X11_isDigit p0) (fun v19 _ => joinK (fun (x21 : Int32) => some (0, x21, ())) (fun k20 => (if v19 = (0 : Int32) then k20 (-1 : Int32) else k20 (3 : Int32)))) else joinK (fun (_ : Unit) => joinK (fun (x12 : Int32) => jbin0 (f_X11_in p0 (48 : Int32) x12) (fun v13 _ => joinK (fun (x15 : Int32) => some (0, x15, ())) (fun k14 => (if v13 = (0 : Int32) then k14 (-1 : Int32) else k14 (6 : Int32))))) (fun k11 => (if p1 = (4 : Int32) then k11 (55 : Int32) else k11 (53 : Int32)))) (fun k1 => (if p1 = (4 : Int32) then k1 () else (if p1 = (5 : Int32) then k1 () else joinK (fun (_ : Unit) => joinK (fun (x10 : Int32) => some (0, x10, ())) (fun k7 => joinK (fun (_ : Unit) => k7 (0 : Int32)) (fun k8 => (if p0 = (124 : Int32) then k8 () else (if p0 = (38 : Int32) then k8 () else joinK (fun (_ : Unit) => k7 (-1 : Int32)) (fun k9 => (if p0 = (41 : Int32) then (if p2 ≤ (0 : Int32) then k9 () else k7 (6 : Int32)) else k9 ()))))))) (fun k2 => (if p1 = (3 : Int32) then jbin0 (f_X11_isDigit p0) (fun v3 _ => (if v3 = (0 : Int32) then k2 () else some (0, (6 : Int32), ()))) else k2 ()))))))))
abbrev rm_X11_behind : Room := { frames := 2, cells := 0, slots := 0, locals := 42 }
set_option maxHeartbeats 4000000 in
set_option maxRecDepth 100000 in
theorem c_X11_behind {l : Launch} {D : va_G} {B t0 : Nat} (hl9 : l.stackTraces = false) (M : jMem) (z : Nat → Prop) (p0 : Int32) (p1 : Int32) (p2 : Int32) : jCf l D B t0 yX11_behind cX11_behind 5 (some .int) rm_X11_behind [.int p0, .int p1, .int p2] M z (f_X11_behind p0 p1 p2) rvI (fun (S9 : Unit) M9 => M9 = M) z := by
  refine jC_of hl9 (me_X11_behind).1 [(0, .int p0), (1, .int p1), (2, .int p2)] ⟨by decide +kernel, Nat.le_of_ble_eq_true rfl⟩ rfl (fun κ hl hD hB hT X htab hin => ?_)
  subst hl hD hB hT
  have X : jX κ RX11 cX11_behind 5 (some .int) := X
  unfold f_X11_behind
  refine j_iload_n X 1 rfl dX11_behind_0 rfl ?_
  refine j_if_ne X 103 dX11_behind_1 (by decide) ?_ ?_
  · refine j_iload_n X 0 rfl dX11_behind_4 rfl ?_
    refine j_bipush X (33 : Int32) dX11_behind_5 (by rfl) ?_
    refine j_join (fun k28 => ∀ (x31 : Int32), J κ 5 rm_X11_behind (jQf κ rm_X11_behind rvI (fun (S9 : Unit) M9 => M9 = M) z) (k28 x31) M z 0 0 [(0, .int p0)] 27 [.int x31]) ?_ (fun k28 hk28 => ?_)
    · intro x31
      refine j_istore_n X [(3, .int x31), (0, .int p0)] dX11_behind_27 rfl (by decide) rfl ?_
      refine j_iload_n X 1 rfl dX11_behind_28 rfl ?_
      refine j_bipush X (108 : Int32) dX11_behind_29 (by rfl) ?_
      refine j_join (fun k32 => ∀ (x34 : Int32), J κ 5 rm_X11_behind (jQf κ rm_X11_behind rvI (fun (S9 : Unit) M9 => M9 = M) z) (k32 x34) M z 0 0 [(0, .int p0), (3, .int x31)] 51 [.int x34]) ?_ (fun k32 hk32 => ?_)
      · intro x34
        refine j_istore X [(4, .int x34), (0, .int p0), (3, .int x31)] dX11_behind_51 (by decide) rfl ?_
        refine j_iload_n X 2 rfl dX11_behind_53 rfl ?_
        refine j_join (fun k35 => ∀ (x36 : Int32), J κ 5 rm_X11_behind (jQf κ rm_X11_behind rvI (fun (S9 : Unit) M9 => M9 = M) z) (k35 x36) M z 0 0 [] 102 [.int x36]) ?_ (fun k35 hk35 => ?_)
        · intro x36
          exact j_iret X dX11_behind_102 rfl (fun _ h => h)
        · refine j_if_eq X 61 dX11_behind_54 (by decide) ?_ ?_
          · refine j_iload_n X 1 rfl dX11_behind_61 rfl ?_
            refine j_bipush X (42 : Int32) dX11_behind_62 (by rfl) ?_
            refine j_icmp_ne X 72 dX11_behind_64 (by decide) ?_ ?_
            · refine j_bipush X (6 : Int32) dX11_behind_67 (by rfl) ?_
              refine j_goto X 102 dX11_behind_69 (by decide) ?_
              refine j_lv [] rfl ?_
              exact hk35 (6 : Int32)
            · refine j_iload X 0 rfl dX11_behind_72 ?_
              refine j_if_eq X 81 dX11_behind_74 (by decide) ?_ ?_
              · refine j_iload_n X 1 rfl dX11_behind_81 rfl ?_
                refine j_bipush X (116 : Int32) dX11_behind_82 (by rfl) ?_
                refine j_icmp_ne X 91 dX11_behind_84 (by decide) ?_ ?_
                · refine j_iconst X (4 : Int32) dX11_behind_87 (by rfl) ?_
                  refine j_goto X 102 dX11_behind_88 (by decide) ?_
                  refine j_lv [] rfl ?_
                  exact hk35 (4 : Int32)
                · refine j_iload_n X 1 rfl dX11_behind_91 rfl ?_
                  refine j_bipush X (64 : Int32) dX11_behind_92 (by rfl) ?_
                  refine j_icmp_ne X 101 dX11_behind_94 (by decide) ?_ ?_
                  · refine j_iconst X (5 : Int32) dX11_behind_97 (by rfl) ?_
                    refine j_goto X 102 dX11_behind_98 (by decide) ?_
                    refine j_lv [] rfl ?_
                    exact hk35 (5 : Int32)
                  · refine j_iconst X (-1 : Int32) dX11_behind_101 (by rfl) ?_
                    refine j_lv [] rfl ?_
                    exact hk35 (-1 : Int32)
              · refine j_iconst X (1 : Int32) dX11_behind_77 (by rfl) ?_
                refine j_goto X 102 dX11_behind_78 (by decide) ?_
                refine j_lv [] rfl ?_
                exact hk35 (1 : Int32)
          · refine j_iconst X (0 : Int32) dX11_behind_57 (by rfl) ?_
            refine j_goto X 102 dX11_behind_58 (by decide) ?_
            refine j_lv [] rfl ?_
            exact hk35 (0 : Int32)
      · refine j_join (fun k33 => ∀ (_ : Unit), J κ 5 rm_X11_behind (jQf κ rm_X11_behind rvI (fun (S9 : Unit) M9 => M9 = M) z) (k33 ()) M z 0 0 [(0, .int p0), (3, .int x31)] 46 []) ?_ (fun k33 hk33 => ?_)
        · intro _
          refine j_iconst X (1 : Int32) dX11_behind_46 (by rfl) ?_
          refine j_goto X 51 dX11_behind_47 (by decide) ?_
          exact hk32 (1 : Int32)
        · refine j_icmp_eq X 46 dX11_behind_31 (by decide) ?_ ?_
          · refine j_lv [1, 0] rfl ?_
            exact hk33 ()
          · refine j_iload_n X 1 rfl dX11_behind_34 rfl ?_
            refine j_bipush X (97 : Int32) dX11_behind_35 (by rfl) ?_
            refine j_icmp_eq X 46 dX11_behind_37 (by decide) ?_ ?_
            · refine j_lv [1, 0] rfl ?_
              exact hk33 ()
            · refine j_iload_n X 1 rfl dX11_behind_40 rfl ?_
              refine j_bipush X (112 : Int32) dX11_behind_41 (by rfl) ?_
              refine j_icmp_ne X 50 dX11_behind_43 (by decide) ?_ ?_
              · refine j_lv [1, 0] rfl ?_
                exact hk33 ()
              · refine j_iconst X (0 : Int32) dX11_behind_50 (by rfl) ?_
                refine j_lv [1, 0] rfl ?_
                exact hk32 (0 : Int32)
    · refine j_join (fun k29 => ∀ (_ : Unit), J κ 5 rm_X11_behind (jQf κ rm_X11_behind rvI (fun (S9 : Unit) M9 => M9 = M) z) (k29 ()) M z 0 0 [(0, .int p0)] 22 []) ?_ (fun k29 hk29 => ?_)
      · intro _
        refine j_iconst X (1 : Int32) dX11_behind_22 (by rfl) ?_
        refine j_goto X 27 dX11_behind_23 (by decide) ?_
        exact hk28 (1 : Int32)
      · refine j_icmp_eq X 22 dX11_behind_7 (by decide) ?_ ?_
        · refine j_lv [0] rfl ?_
          exact hk29 ()
        · refine j_iload_n X 0 rfl dX11_behind_10 rfl ?_
          refine j_bipush X (40 : Int32) dX11_behind_11 (by rfl) ?_
          refine j_join (fun k30 => ∀ (_ : Unit), J κ 5 rm_X11_behind (jQf κ rm_X11_behind rvI (fun (S9 : Unit) M9 => M9 = M) z) (k30 ()) M z 0 0 [(0, .int p0)] 26 []) ?_ (fun k30 hk30 => ?_)
          · intro _
            refine j_iconst X (0 : Int32) dX11_behind_26 (by rfl) ?_
            exact hk28 (0 : Int32)
          · refine j_icmp_ne X 26 dX11_behind_13 (by decide) ?_ ?_
            · refine j_iload_n X 2 rfl dX11_behind_16 rfl ?_
              refine j_bipush X (8 : Int32) dX11_behind_17 (by rfl) ?_
              refine j_icmp_ge X 26 dX11_behind_19 (by decide) ?_ ?_
              · refine j_lv [0] rfl ?_
                exact hk30 ()
              · refine j_lv [0] rfl ?_
                exact hk29 ()
            · refine j_lv [0] rfl ?_
              exact hk30 ()
  · refine j_iload_n X 1 rfl dX11_behind_103 rfl ?_
    refine j_iconst X (1 : Int32) dX11_behind_104 (by rfl) ?_
    refine j_icmp_ne X 132 dX11_behind_105 (by decide) ?_ ?_
    · refine j_iload_n X 0 rfl dX11_behind_108 rfl ?_
      refine j_bipush X (61 : Int32) dX11_behind_109 (by rfl) ?_
      refine j_join (fun k25 => ∀ (x27 : Int32), J κ 5 rm_X11_behind (jQf κ rm_X11_behind rvI (fun (S9 : Unit) M9 => M9 = M) z) (k25 x27) M z 0 0 [] 131 [.int x27]) ?_ (fun k25 hk25 => ?_)
      · intro x27
        exact j_iret X dX11_behind_131 rfl (fun _ h => h)
      · refine j_join (fun k26 => ∀ (_ : Unit), J κ 5 rm_X11_behind (jQf κ rm_X11_behind rvI (fun (S9 : Unit) M9 => M9 = M) z) (k26 ()) M z 0 0 [] 126 []) ?_ (fun k26 hk26 => ?_)
        · intro _
          refine j_iconst X (2 : Int32) dX11_behind_126 (by rfl) ?_
          refine j_goto X 131 dX11_behind_127 (by decide) ?_
          exact hk25 (2 : Int32)
        · refine j_icmp_eq X 126 dX11_behind_111 (by decide) ?_ ?_
          · refine j_lv [] rfl ?_
            exact hk26 ()
          · refine j_iload_n X 0 rfl dX11_behind_114 rfl ?_
            refine j_bipush X (60 : Int32) dX11_behind_115 (by rfl) ?_
            refine j_icmp_eq X 126 dX11_behind_117 (by decide) ?_ ?_
            · refine j_lv [] rfl ?_
              exact hk26 ()
            · refine j_iload_n X 0 rfl dX11_behind_120 rfl ?_
              refine j_bipush X (62 : Int32) dX11_behind_121 (by rfl) ?_
              refine j_icmp_ne X 130 dX11_behind_123 (by decide) ?_ ?_
              · refine j_lv [] rfl ?_
                exact hk26 ()
              · refine j_iconst X (-1 : Int32) dX11_behind_130 (by rfl) ?_
                refine j_lv [] rfl ?_
                exact hk25 (-1 : Int32)
    · refine j_iload_n X 1 rfl dX11_behind_132 rfl ?_
      refine j_iconst X (2 : Int32) dX11_behind_133 (by rfl) ?_
      refine j_icmp_ne X 150 dX11_behind_134 (by decide) ?_ ?_
      · refine j_iload_n X 0 rfl dX11_behind_137 rfl ?_
        refine j_call0S X 0 0 (c_X11_isDigit X.tr M z p0) me_X11_isDigit ml_X11_113 st_X11_isDigit dX11_behind_138 (rest := []) rfl rfl (by decide) (by decide) (Nat.le_of_ble_eq_true rfl) (fun v19 u24 M23 hM22 => ?_)
        subst M23
        refine j_st (st1 := [.int v19]) rfl ?_
        refine j_join (fun k20 => ∀ (x21 : Int32), J κ 5 rm_X11_behind (jQf κ rm_X11_behind rvI (fun (S9 : Unit) M9 => M9 = M) z) (k20 x21) M z 0 0 [] 149 [.int x21]) ?_ (fun k20 hk20 => ?_)
        · intro x21
          exact j_iret X dX11_behind_149 rfl (fun _ h => h)
        · refine j_if_eq X 148 dX11_behind_141 (by decide) ?_ ?_
          · refine j_iconst X (-1 : Int32) dX11_behind_148 (by rfl) ?_
            refine j_lv [] rfl ?_
            exact hk20 (-1 : Int32)
          · refine j_iconst X (3 : Int32) dX11_behind_144 (by rfl) ?_
            refine j_goto X 149 dX11_behind_145 (by decide) ?_
            refine j_lv [] rfl ?_
            exact hk20 (3 : Int32)
      · refine j_iload_n X 1 rfl dX11_behind_150 rfl ?_
        refine j_iconst X (4 : Int32) dX11_behind_151 (by rfl) ?_
        refine j_join (fun k1 => ∀ (_ : Unit), J κ 5 rm_X11_behind (jQf κ rm_X11_behind rvI (fun (S9 : Unit) M9 => M9 = M) z) (k1 ()) M z 0 0 [(0, .int p0), (1, .int p1)] 160 []) ?_ (fun k1 hk1 => ?_)
        · intro _
          refine j_iload_n X 0 rfl dX11_behind_160 rfl ?_
          refine j_bipush X (48 : Int32) dX11_behind_161 (by rfl) ?_
          refine j_iload_n X 1 rfl dX11_behind_163 rfl ?_
          refine j_iconst X (4 : Int32) dX11_behind_164 (by rfl) ?_
          refine j_join (fun k11 => ∀ (x12 : Int32), J κ 5 rm_X11_behind (jQf κ rm_X11_behind rvI (fun (S9 : Unit) M9 => M9 = M) z) (k11 x12) M z 0 0 [] 175 [.int x12, .int (48 : Int32), .int p0]) ?_ (fun k11 hk11 => ?_)
          · intro x12
            refine j_call0S X 0 0 (c_X11_in X.tr M z p0 (48 : Int32) x12) me_X11_in ml_X11_99 st_X11_in dX11_behind_175 (rest := []) rfl rfl (by decide) (by decide) (Nat.le_of_ble_eq_true rfl) (fun v13 u18 M17 hM16 => ?_)
            subst M17
            refine j_st (st1 := [.int v13]) rfl ?_
            refine j_join (fun k14 => ∀ (x15 : Int32), J κ 5 rm_X11_behind (jQf κ rm_X11_behind rvI (fun (S9 : Unit) M9 => M9 = M) z) (k14 x15) M z 0 0 [] 187 [.int x15]) ?_ (fun k14 hk14 => ?_)
            · intro x15
              exact j_iret X dX11_behind_187 rfl (fun _ h => h)
            · refine j_if_eq X 186 dX11_behind_178 (by decide) ?_ ?_
              · refine j_iconst X (-1 : Int32) dX11_behind_186 (by rfl) ?_
                exact hk14 (-1 : Int32)
              · refine j_bipush X (6 : Int32) dX11_behind_181 (by rfl) ?_
                refine j_goto X 187 dX11_behind_183 (by decide) ?_
                exact hk14 (6 : Int32)
          · refine j_icmp_ne X 173 dX11_behind_165 (by decide) ?_ ?_
            · refine j_bipush X (55 : Int32) dX11_behind_168 (by rfl) ?_
              refine j_goto X 175 dX11_behind_170 (by decide) ?_
              refine j_lv [] rfl ?_
              exact hk11 (55 : Int32)
            · refine j_bipush X (53 : Int32) dX11_behind_173 (by rfl) ?_
              refine j_lv [] rfl ?_
              exact hk11 (53 : Int32)
        · refine j_icmp_eq X 160 dX11_behind_152 (by decide) ?_ ?_
          · refine j_lv [0, 1] rfl ?_
            exact hk1 ()
          · refine j_iload_n X 1 rfl dX11_behind_155 rfl ?_
            refine j_iconst X (5 : Int32) dX11_behind_156 (by rfl) ?_
            refine j_icmp_ne X 188 dX11_behind_157 (by decide) ?_ ?_
            · refine j_lv [0, 1] rfl ?_
              exact hk1 ()
            · refine j_iload_n X 1 rfl dX11_behind_188 rfl ?_
              refine j_iconst X (3 : Int32) dX11_behind_189 (by rfl) ?_
              refine j_join (fun k2 => ∀ (_ : Unit), J κ 5 rm_X11_behind (jQf κ rm_X11_behind rvI (fun (S9 : Unit) M9 => M9 = M) z) (k2 ()) M z 0 0 [(0, .int p0), (2, .int p2)] 203 []) ?_ (fun k2 hk2 => ?_)
              · intro _
                refine j_iload_n X 0 rfl dX11_behind_203 rfl ?_
                refine j_bipush X (124 : Int32) dX11_behind_204 (by rfl) ?_
                refine j_join (fun k7 => ∀ (x10 : Int32), J κ 5 rm_X11_behind (jQf κ rm_X11_behind rvI (fun (S9 : Unit) M9 => M9 = M) z) (k7 x10) M z 0 0 [] 235 [.int x10]) ?_ (fun k7 hk7 => ?_)
                · intro x10
                  exact j_iret X dX11_behind_235 rfl (fun _ h => h)
                · refine j_join (fun k8 => ∀ (_ : Unit), J κ 5 rm_X11_behind (jQf κ rm_X11_behind rvI (fun (S9 : Unit) M9 => M9 = M) z) (k8 ()) M z 0 0 [] 215 []) ?_ (fun k8 hk8 => ?_)
                  · intro _
                    refine j_iconst X (0 : Int32) dX11_behind_215 (by rfl) ?_
                    refine j_goto X 235 dX11_behind_216 (by decide) ?_
                    exact hk7 (0 : Int32)
                  · refine j_icmp_eq X 215 dX11_behind_206 (by decide) ?_ ?_
                    · refine j_lv [] rfl ?_
                      exact hk8 ()
                    · refine j_iload_n X 0 rfl dX11_behind_209 rfl ?_
                      refine j_bipush X (38 : Int32) dX11_behind_210 (by rfl) ?_
                      refine j_icmp_ne X 219 dX11_behind_212 (by decide) ?_ ?_
                      · refine j_lv [] rfl ?_
                        exact hk8 ()
                      · refine j_iload_n X 0 rfl dX11_behind_219 rfl ?_
                        refine j_bipush X (41 : Int32) dX11_behind_220 (by rfl) ?_
                        refine j_join (fun k9 => ∀ (_ : Unit), J κ 5 rm_X11_behind (jQf κ rm_X11_behind rvI (fun (S9 : Unit) M9 => M9 = M) z) (k9 ()) M z 0 0 [] 234 []) ?_ (fun k9 hk9 => ?_)
                        · intro _
                          refine j_iconst X (-1 : Int32) dX11_behind_234 (by rfl) ?_
                          exact hk7 (-1 : Int32)
                        · refine j_icmp_ne X 234 dX11_behind_222 (by decide) ?_ ?_
                          · refine j_iload_n X 1 rfl dX11_behind_225 rfl ?_
                            refine j_if_le X 234 dX11_behind_226 (by decide) ?_ ?_
                            · refine j_lv [] rfl ?_
                              exact hk9 ()
                            · refine j_bipush X (6 : Int32) dX11_behind_229 (by rfl) ?_
                              refine j_goto X 235 dX11_behind_231 (by decide) ?_
                              refine j_lv [] rfl ?_
                              exact hk7 (6 : Int32)
                          · refine j_lv [] rfl ?_
                            exact hk9 ()
              · refine j_icmp_ne X 203 dX11_behind_190 (by decide) ?_ ?_
                · refine j_iload_n X 0 rfl dX11_behind_193 rfl ?_
                  refine j_call0S X 0 0 (c_X11_isDigit X.tr M z p0) me_X11_isDigit ml_X11_113 st_X11_isDigit dX11_behind_194 (rest := []) rfl rfl (by decide) (by decide) (Nat.le_of_ble_eq_true rfl) (fun v3 u6 M5 hM4 => ?_)
                  subst M5
                  refine j_st (st1 := [.int v3]) rfl ?_
                  refine j_if_eq X 203 dX11_behind_197 (by decide) ?_ ?_
                  · refine j_lv [0, 2] rfl ?_
                    exact hk2 ()
                  · refine j_bipush X (6 : Int32) dX11_behind_200 (by rfl) ?_
                    exact j_iret X dX11_behind_202 rfl (fun _ h => h)
                · refine j_lv [0, 2] rfl ?_
                  exact hk2 ()
def f_X11_faultOf (S : jS) (p1 : Int32) : Option (jR Unit) := loopK (fun (rec1 : Int32 → Int32 → Int32 → Option (jR Unit)) (x2 : Int32) (x3 : Int32) (x4 : Int32) => chk (inb p1 6) ((if (S 362 p1.toNatClampNeg) ≤ x4 then joinK (fun (x9 : Int32) => some (0, x9, ())) (fun k5 => joinK (fun (_ : Unit) => chk (inb p1 6) (k5 (S 362 p1.toNatClampNeg))) (fun k6 => (if x3 = (0 : Int32) then joinK (fun (_ : Unit) => k5 (-1 : Int32)) (fun k7 => (if x2 = (3 : Int32) then k7 () else (if x2 = (6 : Int32) then k7 () else k6 ()))) else k6 ()))) else chk (inb ((((60 : Int32) * p1) + x4)) 360) (letE ((S 361 ((((60 : Int32) * p1) + x4)).toNatClampNeg)) fun x10 => jbin0 (f_X11_behind x10 x2 x3) (fun v11 _ => (if v11 = (-1 : Int32) then some (0, x4, ()) else joinK (fun (x13 : Int32) => letE (x3 + x13) fun x14 => letE (x4 + (1 : Int32)) fun x15 => rec1 v11 x14 x15) (fun k12 => (if x10 = (40 : Int32) then k12 (1 : Int32) else (if x10 = (41 : Int32) then k12 (-1 : Int32) else k12 (0 : Int32)))))))))) (fun _ _ _ => none) 1000 (0 : Int32) (0 : Int32) (0 : Int32)
abbrev rm_X11_faultOf : Room := { frames := 3, cells := 0, slots := 0, locals := 66 }
set_option maxHeartbeats 4000000 in
set_option maxRecDepth 100000 in
theorem c_X11_faultOf {l : Launch} {D : va_G} {B t0 : Nat} (hl9 : l.stackTraces = false) (S : jS) (X9 : jMem) (z : Nat → Prop) (p1 : Int32) : jCf l D B t0 yX11_faultOf cX11_faultOf 7 (some .int) rm_X11_faultOf [.ref (B + 358), .int p1] (memG 358 387 D B S X9) z (f_X11_faultOf S p1) rvI (fun (S9 : Unit) M9 => M9 = memG 358 387 D B S X9) z := by
  refine jC_of hl9 (me_X11_faultOf).1 [(0, .ref (B + 358)), (1, .int p1)] ⟨by decide +kernel, Nat.le_of_ble_eq_true rfl⟩ rfl (fun κ hl hD hB hT X htab hin => ?_)
  subst hl hD hB hT
  have X : jX κ RX11 cX11_faultOf 7 (some .int) := X
  unfold f_X11_faultOf
  refine j_iconst X (0 : Int32) dX11_faultOf_0 (by rfl) ?_
  refine j_istore_n X [(2, .int (0 : Int32)), (0, .ref (kB κ + 358)), (1, .int p1)] dX11_faultOf_1 rfl (by decide) rfl ?_
  refine j_iconst X (0 : Int32) dX11_faultOf_2 (by rfl) ?_
  refine j_istore_n X [(3, .int (0 : Int32)), (2, .int (0 : Int32)), (0, .ref (kB κ + 358)), (1, .int p1)] dX11_faultOf_3 rfl (by decide) rfl ?_
  refine j_iconst X (0 : Int32) dX11_faultOf_4 (by rfl) ?_
  refine j_istore X [(4, .int (0 : Int32)), (3, .int (0 : Int32)), (2, .int (0 : Int32)), (0, .ref (kB κ + 358)), (1, .int p1)] dX11_faultOf_5 (by decide) rfl ?_
  refine j_lv [3, 4, 2, 1, 0] rfl ?_
  refine j_loop (fun (k : Int32 → Int32 → Int32 → Option (jR Unit)) => ∀ (x2 : Int32) (x3 : Int32) (x4 : Int32), J κ 7 rm_X11_faultOf (jQf κ rm_X11_faultOf rvI (fun (S9 : Unit) M9 => M9 = memG 358 387 (kD κ) (kB κ) S X9) z) (k x2 x3 x4) (memG 358 387 (kD κ) (kB κ) S X9) z 0 0 [(0, .ref (kB κ + 358)), (1, .int p1), (2, .int x2), (3, .int x3), (4, .int x4)] 7 []) (fun _ _ _ => j_none) (fun rec1 hrec1 => ?_) 1000 _ _ _
  intro x2 x3 x4
  refine j_iload X 4 rfl dX11_faultOf_7 ?_
  refine j_aload_n X 0 rfl dX11_faultOf_9 rfl ?_
  refine g_getf X 4 kf_358 cf_X11 (by decide) fl_X11_19 dX11_faultOf_10 rfl rfl ?_
  refine j_iload_n X 1 rfl dX11_faultOf_13 rfl ?_
  refine g_iald X 6 kf_362 (by decide) dX11_faultOf_14 (fun h20 => ?_)
  refine j_icmp_ge X 85 dX11_faultOf_15 (by decide) ?_ ?_
  · refine j_iload_n X 3 rfl dX11_faultOf_85 rfl ?_
    refine j_join (fun k5 => ∀ (x9 : Int32), J κ 7 rm_X11_faultOf (jQf κ rm_X11_faultOf rvI (fun (S9 : Unit) M9 => M9 = memG 358 387 (kD κ) (kB κ) S X9) z) (k5 x9) (memG 358 387 (kD κ) (kB κ) S X9) z 0 0 [] 110 [.int x9]) ?_ (fun k5 hk5 => ?_)
    · intro x9
      exact j_iret X dX11_faultOf_110 rfl (fun _ h => h)
    · refine j_join (fun k6 => ∀ (_ : Unit), J κ 7 rm_X11_faultOf (jQf κ rm_X11_faultOf rvI (fun (S9 : Unit) M9 => M9 = memG 358 387 (kD κ) (kB κ) S X9) z) (k6 ()) (memG 358 387 (kD κ) (kB κ) S X9) z 0 0 [(0, .ref (kB κ + 358)), (1, .int p1)] 104 []) ?_ (fun k6 hk6 => ?_)
      · intro _
        refine j_aload_n X 0 rfl dX11_faultOf_104 rfl ?_
        refine g_getf X 4 kf_358 cf_X11 (by decide) fl_X11_19 dX11_faultOf_105 rfl rfl ?_
        refine j_iload_n X 1 rfl dX11_faultOf_108 rfl ?_
        refine g_iald X 6 kf_362 (by decide) dX11_faultOf_109 (fun h8 => ?_)
        refine j_lv [] rfl ?_
        exact hk5 (S 362 p1.toNatClampNeg)
      · refine j_if_ne X 104 dX11_faultOf_86 (by decide) ?_ ?_
        · refine j_iload_n X 2 rfl dX11_faultOf_89 rfl ?_
          refine j_iconst X (3 : Int32) dX11_faultOf_90 (by rfl) ?_
          refine j_join (fun k7 => ∀ (_ : Unit), J κ 7 rm_X11_faultOf (jQf κ rm_X11_faultOf rvI (fun (S9 : Unit) M9 => M9 = memG 358 387 (kD κ) (kB κ) S X9) z) (k7 ()) (memG 358 387 (kD κ) (kB κ) S X9) z 0 0 [] 100 []) ?_ (fun k7 hk7 => ?_)
          · intro _
            refine j_iconst X (-1 : Int32) dX11_faultOf_100 (by rfl) ?_
            refine j_goto X 110 dX11_faultOf_101 (by decide) ?_
            exact hk5 (-1 : Int32)
          · refine j_icmp_eq X 100 dX11_faultOf_91 (by decide) ?_ ?_
            · refine j_lv [] rfl ?_
              exact hk7 ()
            · refine j_iload_n X 2 rfl dX11_faultOf_94 rfl ?_
              refine j_bipush X (6 : Int32) dX11_faultOf_95 (by rfl) ?_
              refine j_icmp_ne X 104 dX11_faultOf_97 (by decide) ?_ ?_
              · refine j_lv [] rfl ?_
                exact hk7 ()
              · refine j_lv [0, 1] rfl ?_
                exact hk6 ()
        · refine j_lv [0, 1] rfl ?_
          exact hk6 ()
  · refine j_aload_n X 0 rfl dX11_faultOf_18 rfl ?_
    refine g_getf X 3 kf_358 cf_X11 (by decide) fl_X11_16 dX11_faultOf_19 rfl rfl ?_
    refine j_bipush X (60 : Int32) dX11_faultOf_22 (by rfl) ?_
    refine j_iload_n X 1 rfl dX11_faultOf_24 rfl ?_
    refine j_imul X dX11_faultOf_25 ?_
    refine j_iload X 4 rfl dX11_faultOf_26 ?_
    refine j_iadd X dX11_faultOf_28 ?_
    refine g_iald X 360 kf_361 (by decide) dX11_faultOf_29 (fun h19 => ?_)
    refine j_letE (fun x10 => ?_)
    refine j_istore X [(5, .int x10), (0, .ref (kB κ + 358)), (1, .int p1), (2, .int x2), (3, .int x3), (4, .int x4)] dX11_faultOf_30 (by decide) rfl ?_
    refine j_iload X 0 rfl dX11_faultOf_32 ?_
    refine j_iload_n X 3 rfl dX11_faultOf_34 rfl ?_
    refine j_iload_n X 4 rfl dX11_faultOf_35 rfl ?_
    refine j_call0S X 0 0 (c_X11_behind X.tr (memG 358 387 (kD κ) (kB κ) S X9) z x10 x2 x3) me_X11_behind ml_X11_116 st_X11_behind dX11_faultOf_36 (rest := []) rfl rfl (by decide) (by decide) (Nat.le_of_ble_eq_true rfl) (fun v11 u18 M17 hM16 => ?_)
    subst M17
    refine j_st (st1 := [.int v11]) rfl ?_
    refine j_istore X [(6, .int v11), (5, .int x10), (0, .ref (kB κ + 358)), (1, .int p1), (2, .int x2), (3, .int x3), (4, .int x4)] dX11_faultOf_39 (by decide) rfl ?_
    refine j_iload X 0 rfl dX11_faultOf_41 ?_
    refine j_iconst X (-1 : Int32) dX11_faultOf_43 (by rfl) ?_
    refine j_icmp_ne X 50 dX11_faultOf_44 (by decide) ?_ ?_
    · refine j_iload X 6 rfl dX11_faultOf_47 ?_
      exact j_iret X dX11_faultOf_49 rfl (fun _ h => h)
    · refine j_iload_n X 5 rfl dX11_faultOf_50 rfl ?_
      refine j_iload X 1 rfl dX11_faultOf_51 ?_
      refine j_bipush X (40 : Int32) dX11_faultOf_53 (by rfl) ?_
      refine j_join (fun k12 => ∀ (x13 : Int32), J κ 7 rm_X11_faultOf (jQf κ rm_X11_faultOf rvI (fun (S9 : Unit) M9 => M9 = memG 358 387 (kD κ) (kB κ) S X9) z) (k12 x13) (memG 358 387 (kD κ) (kB κ) S X9) z 0 0 [(0, .ref (kB κ + 358)), (1, .int p1), (4, .int x4), (6, .int v11)] 74 [.int x13, .int x3]) ?_ (fun k12 hk12 => ?_)
      · intro x13
        refine j_iadd X dX11_faultOf_74 ?_
        refine j_letE (fun x14 => ?_)
        refine j_istore_n X [(3, .int x14), (0, .ref (kB κ + 358)), (1, .int p1), (4, .int x4), (6, .int v11)] dX11_faultOf_75 rfl (by decide) rfl ?_
        refine j_iload X 4 rfl dX11_faultOf_76 ?_
        refine j_istore_n X [(2, .int v11), (3, .int x14), (0, .ref (kB κ + 358)), (1, .int p1), (4, .int x4), (6, .int v11)] dX11_faultOf_78 rfl (by decide) rfl ?_
        refine j_iincL X 4 (fun x15 => [(4, .int x15), (2, .int v11), (3, .int x14), (0, .ref (kB κ + 358)), (1, .int p1), (6, .int v11)]) dX11_faultOf_79 rfl (by rfl) (by decide) (fun _ => rfl) (fun x15 => ?_)
        refine j_goto X 7 dX11_faultOf_82 (by decide) ?_
        refine j_lv [3, 4, 1, 2, 0] rfl ?_
        exact hrec1 v11 x14 x15
      · refine j_icmp_ne X 62 dX11_faultOf_55 (by decide) ?_ ?_
        · refine j_iconst X (1 : Int32) dX11_faultOf_58 (by rfl) ?_
          refine j_goto X 74 dX11_faultOf_59 (by decide) ?_
          refine j_lv [2, 3, 6, 0] rfl ?_
          exact hk12 (1 : Int32)
        · refine j_iload X 1 rfl dX11_faultOf_62 ?_
          refine j_bipush X (41 : Int32) dX11_faultOf_64 (by rfl) ?_
          refine j_icmp_ne X 73 dX11_faultOf_66 (by decide) ?_ ?_
          · refine j_iconst X (-1 : Int32) dX11_faultOf_69 (by rfl) ?_
            refine j_goto X 74 dX11_faultOf_70 (by decide) ?_
            refine j_lv [2, 3, 6, 0] rfl ?_
            exact hk12 (-1 : Int32)
          · refine j_iconst X (0 : Int32) dX11_faultOf_73 (by rfl) ?_
            refine j_lv [2, 3, 6, 0] rfl ?_
            exact hk12 (0 : Int32)
def f_X11_fault (S : jS) (p1 : Int32) : Option (jR jS) := jbin0 (f_X11_isAudience p1) (fun v1 _ => joinK (fun (x3 : Int32) => jbin0 (f_X11_goesWell S x3) (fun v4 S5 => joinK (fun (x11 : Int32) => some (0, x11, S5)) (fun k6 => (if v4 = (0 : Int32) then k6 (0 : Int32) else jbin0 (f_X11_faultOf S5 p1) (fun v7 _ => k6 v7))))) (fun k2 => (if v1 = (0 : Int32) then k2 (1 : Int32) else k2 (0 : Int32))))
abbrev rm_X11_fault : Room := { frames := 4, cells := 0, slots := 0, locals := 92 }
set_option maxHeartbeats 4000000 in
set_option maxRecDepth 100000 in
theorem c_X11_fault {l : Launch} {D : va_G} {B t0 : Nat} (hl9 : l.stackTraces = false) (S : jS) (X9 : jMem) (z : Nat → Prop) (p1 : Int32) : jCf l D B t0 yX11_fault cX11_fault 2 (some .int) rm_X11_fault [.ref (B + 358), .int p1] (memG 358 387 D B S X9) z (f_X11_fault S p1) rvI (fun S9 M9 => M9 = memG 358 387 D B S9 X9) z := by
  refine jC_of hl9 (me_X11_fault).1 [(0, .ref (B + 358)), (1, .int p1)] ⟨by decide +kernel, Nat.le_of_ble_eq_true rfl⟩ rfl (fun κ hl hD hB hT X htab hin => ?_)
  subst hl hD hB hT
  have X : jX κ RX11 cX11_fault 2 (some .int) := X
  unfold f_X11_fault
  refine j_aload_n X 0 rfl dX11_fault_0 rfl ?_
  refine j_iload_n X 1 rfl dX11_fault_1 rfl ?_
  refine j_call0S X 0 0 (c_X11_isAudience X.tr (memG 358 387 (kD κ) (kB κ) S X9) z p1) me_X11_isAudience ml_X11_110 st_X11_isAudience dX11_fault_2 (rest := [.ref (kB κ + 358)]) rfl rfl (by decide) (by decide) (Nat.le_of_ble_eq_true rfl) (fun v1 u16 M15 hM14 => ?_)
  subst M15
  refine j_st (st1 := [.int v1, .ref (kB κ + 358)]) rfl ?_
  refine j_join (fun k2 => ∀ (x3 : Int32), J κ 2 rm_X11_fault (jQf κ rm_X11_fault rvI (fun S9 M9 => M9 = memG 358 387 (kD κ) (kB κ) S9 X9) z) (k2 x3) (memG 358 387 (kD κ) (kB κ) S X9) z 0 0 [(0, .ref (kB κ + 358)), (1, .int p1)] 13 [.int x3, .ref (kB κ + 358)]) ?_ (fun k2 hk2 => ?_)
  · intro x3
    refine j_call0V X 0 0 (c_X11_goesWell X.tr S X9 z x3) me_X11_goesWell ml_X11_107 iv_X11_goesWell cf_X11 dX11_fault_13 (memG_at kf_358) (rest := []) rfl rfl (by decide) (by decide) (Nat.le_of_ble_eq_true rfl) (fun v4 S5 M13 hM12 => ?_)
    subst M13
    refine j_st (st1 := [.int v4]) rfl ?_
    refine j_join (fun k6 => ∀ (x11 : Int32), J κ 2 rm_X11_fault (jQf κ rm_X11_fault rvI (fun S9 M9 => M9 = memG 358 387 (kD κ) (kB κ) S9 X9) z) (k6 x11) (memG 358 387 (kD κ) (kB κ) S5 X9) z 0 0 [] 28 [.int x11]) ?_ (fun k6 hk6 => ?_)
    · intro x11
      exact j_iret X dX11_fault_28 rfl (fun _ h => h)
    · refine j_if_eq X 27 dX11_fault_16 (by decide) ?_ ?_
      · refine j_iconst X (0 : Int32) dX11_fault_27 (by rfl) ?_
        refine j_lv [] rfl ?_
        exact hk6 (0 : Int32)
      · refine j_aload_n X 0 rfl dX11_fault_19 rfl ?_
        refine j_iload_n X 1 rfl dX11_fault_20 rfl ?_
        refine j_call0V X 0 0 (c_X11_faultOf X.tr S5 X9 z p1) me_X11_faultOf ml_X11_120 iv_X11_faultOf cf_X11 dX11_fault_21 (memG_at kf_358) (rest := []) rfl rfl (by decide) (by decide) (Nat.le_of_ble_eq_true rfl) (fun v7 u10 M9 hM8 => ?_)
        subst M9
        refine j_st (st1 := [.int v7]) rfl ?_
        refine j_goto X 28 dX11_fault_24 (by decide) ?_
        refine j_lv [] rfl ?_
        exact hk6 v7
  · refine j_if_eq X 12 dX11_fault_5 (by decide) ?_ ?_
    · refine j_iconst X (1 : Int32) dX11_fault_12 (by rfl) ?_
      exact hk2 (1 : Int32)
    · refine j_iconst X (0 : Int32) dX11_fault_8 (by rfl) ?_
      refine j_goto X 13 dX11_fault_9 (by decide) ?_
      exact hk2 (0 : Int32)
def f_X11_signOf (S : jS) (p1 : Int32) (p2 : Int32) : Option (jR Unit) := chk (inb p1 6) (joinK (fun (x3 : Int32) => some (0, x3, ())) (fun k1 => (if (S 364 p1.toNatClampNeg) ≤ p2 then k1 (0 : Int32) else chk (inb ((((60 : Int32) * p1) + p2)) 360) (k1 ((S 363 ((((60 : Int32) * p1) + p2)).toNatClampNeg))))))
abbrev rm_X11_signOf : Room := { frames := 0, cells := 0, slots := 0, locals := 0 }
set_option maxHeartbeats 4000000 in
set_option maxRecDepth 100000 in
theorem c_X11_signOf {l : Launch} {D : va_G} {B t0 : Nat} (hl9 : l.stackTraces = false) (S : jS) (X9 : jMem) (z : Nat → Prop) (p1 : Int32) (p2 : Int32) : jCf l D B t0 yX11_signOf cX11_signOf 3 (some .int) rm_X11_signOf [.ref (B + 358), .int p1, .int p2] (memG 358 387 D B S X9) z (f_X11_signOf S p1 p2) rvI (fun (S9 : Unit) M9 => M9 = memG 358 387 D B S X9) z := by
  refine jC_of hl9 (me_X11_signOf).1 [(0, .ref (B + 358)), (1, .int p1), (2, .int p2)] ⟨by decide +kernel, Nat.le_of_ble_eq_true rfl⟩ rfl (fun κ hl hD hB hT X htab hin => ?_)
  subst hl hD hB hT
  have X : jX κ RX11 cX11_signOf 3 (some .int) := X
  unfold f_X11_signOf
  refine j_iload_n X 2 rfl dX11_signOf_0 rfl ?_
  refine j_aload_n X 0 rfl dX11_signOf_1 rfl ?_
  refine g_getf X 6 kf_358 cf_X11 (by decide) fl_X11_25 dX11_signOf_2 rfl rfl ?_
  refine j_iload_n X 1 rfl dX11_signOf_5 rfl ?_
  refine g_iald X 6 kf_364 (by decide) dX11_signOf_6 (fun h4 => ?_)
  refine j_join (fun k1 => ∀ (x3 : Int32), J κ 3 rm_X11_signOf (jQf κ rm_X11_signOf rvI (fun (S9 : Unit) M9 => M9 = memG 358 387 (kD κ) (kB κ) S X9) z) (k1 x3) (memG 358 387 (kD κ) (kB κ) S X9) z 0 0 [] 25 [.int x3]) ?_ (fun k1 hk1 => ?_)
  · intro x3
    exact j_iret X dX11_signOf_25 rfl (fun _ h => h)
  · refine j_icmp_ge X 24 dX11_signOf_7 (by decide) ?_ ?_
    · refine j_iconst X (0 : Int32) dX11_signOf_24 (by rfl) ?_
      refine j_lv [] rfl ?_
      exact hk1 (0 : Int32)
    · refine j_aload_n X 0 rfl dX11_signOf_10 rfl ?_
      refine g_getf X 5 kf_358 cf_X11 (by decide) fl_X11_22 dX11_signOf_11 rfl rfl ?_
      refine j_bipush X (60 : Int32) dX11_signOf_14 (by rfl) ?_
      refine j_iload_n X 1 rfl dX11_signOf_16 rfl ?_
      refine j_imul X dX11_signOf_17 ?_
      refine j_iload_n X 2 rfl dX11_signOf_18 rfl ?_
      refine j_iadd X dX11_signOf_19 ?_
      refine g_iald X 360 kf_363 (by decide) dX11_signOf_20 (fun h2 => ?_)
      refine j_goto X 25 dX11_signOf_21 (by decide) ?_
      refine j_lv [] rfl ?_
      exact hk1 ((S 363 ((((60 : Int32) * p1) + p2)).toNatClampNeg))
def f_X11_numberAt (S : jS) (p1 : Int32) (p2 : Int32) : Option (jR Unit) := jbin0 (f_X11_signOf S p1 p2) (fun v1 _ => letE ((v1 - (48 : Int32))) fun x2 => jbin0 (f_X11_signOf S p1 ((p2 + (1 : Int32)))) (fun v3 _ => jbin0 (f_X11_isDigit v3) (fun v4 _ => joinK (fun (x6 : Int32) => some (0, x6, ())) (fun k5 => (if v4 = (0 : Int32) then k5 x2 else k5 (((((10 : Int32) * x2) + v3) - (48 : Int32))))))))
abbrev rm_X11_numberAt : Room := { frames := 2, cells := 0, slots := 0, locals := 42 }
set_option maxHeartbeats 4000000 in
set_option maxRecDepth 100000 in
theorem c_X11_numberAt {l : Launch} {D : va_G} {B t0 : Nat} (hl9 : l.stackTraces = false) (S : jS) (X9 : jMem) (z : Nat → Prop) (p1 : Int32) (p2 : Int32) : jCf l D B t0 yX11_numberAt cX11_numberAt 5 (some .int) rm_X11_numberAt [.ref (B + 358), .int p1, .int p2] (memG 358 387 D B S X9) z (f_X11_numberAt S p1 p2) rvI (fun (S9 : Unit) M9 => M9 = memG 358 387 D B S X9) z := by
  refine jC_of hl9 (me_X11_numberAt).1 [(0, .ref (B + 358)), (1, .int p1), (2, .int p2)] ⟨by decide +kernel, Nat.le_of_ble_eq_true rfl⟩ rfl (fun κ hl hD hB hT X htab hin => ?_)
  subst hl hD hB hT
  have X : jX κ RX11 cX11_numberAt 5 (some .int) := X
  unfold f_X11_numberAt
  refine j_aload_n X 0 rfl dX11_numberAt_0 rfl ?_
  refine j_iload_n X 1 rfl dX11_numberAt_1 rfl ?_
  refine j_iload_n X 2 rfl dX11_numberAt_2 rfl ?_
  refine j_call0V X 0 0 (c_X11_signOf X.tr S X9 z p1 p2) me_X11_signOf ml_X11_124 iv_X11_signOf cf_X11 dX11_numberAt_3 (memG_at kf_358) (rest := []) rfl rfl (by decide) (by decide) (Nat.le_of_ble_eq_true rfl) (fun v1 u15 M14 hM13 => ?_)
  subst M14
  refine j_st (st1 := [.int v1]) rfl ?_
  refine j_bipush X (48 : Int32) dX11_numberAt_6 (by rfl) ?_
  refine j_isub X dX11_numberAt_8 ?_
  refine j_letE (fun x2 => ?_)
  refine j_istore_n X [(3, .int x2), (0, .ref (kB κ + 358)), (1, .int p1), (2, .int p2)] dX11_numberAt_9 rfl (by decide) rfl ?_
  refine j_aload_n X 1 rfl dX11_numberAt_10 rfl ?_
  refine j_iload_n X 2 rfl dX11_numberAt_11 rfl ?_
  refine j_iload_n X 3 rfl dX11_numberAt_12 rfl ?_
  refine j_iconst X (1 : Int32) dX11_numberAt_13 (by rfl) ?_
  refine j_iadd X dX11_numberAt_14 ?_
  refine j_call0V X 0 0 (c_X11_signOf X.tr S X9 z p1 ((p2 + (1 : Int32)))) me_X11_signOf ml_X11_124 iv_X11_signOf cf_X11 dX11_numberAt_15 (memG_at kf_358) (rest := []) rfl rfl (by decide) (by decide) (Nat.le_of_ble_eq_true rfl) (fun v3 u12 M11 hM10 => ?_)
  subst M11
  refine j_st (st1 := [.int v3]) rfl ?_
  refine j_istore X [(4, .int v3), (3, .int x2), (0, .ref (kB κ + 358)), (1, .int p1), (2, .int p2)] dX11_numberAt_18 (by decide) rfl ?_
  refine j_iload X 0 rfl dX11_numberAt_20 ?_
  refine j_call0S X 0 0 (c_X11_isDigit X.tr (memG 358 387 (kD κ) (kB κ) S X9) z v3) me_X11_isDigit ml_X11_113 st_X11_isDigit dX11_numberAt_22 (rest := []) rfl rfl (by decide) (by decide) (Nat.le_of_ble_eq_true rfl) (fun v4 u9 M8 hM7 => ?_)
  subst M8
  refine j_st (st1 := [.int v4]) rfl ?_
  refine j_join (fun k5 => ∀ (x6 : Int32), J κ 5 rm_X11_numberAt (jQf κ rm_X11_numberAt rvI (fun (S9 : Unit) M9 => M9 = memG 358 387 (kD κ) (kB κ) S X9) z) (k5 x6) (memG 358 387 (kD κ) (kB κ) S X9) z 0 0 [] 42 [.int x6]) ?_ (fun k5 hk5 => ?_)
  · intro x6
    exact j_iret X dX11_numberAt_42 rfl (fun _ h => h)
  · refine j_if_eq X 41 dX11_numberAt_25 (by decide) ?_ ?_
    · refine j_iload_n X 1 rfl dX11_numberAt_41 rfl ?_
      refine j_lv [] rfl ?_
      exact hk5 x2
    · refine j_bipush X (10 : Int32) dX11_numberAt_28 (by rfl) ?_
      refine j_iload_n X 1 rfl dX11_numberAt_30 rfl ?_
      refine j_imul X dX11_numberAt_31 ?_
      refine j_iload X 0 rfl dX11_numberAt_32 ?_
      refine j_iadd X dX11_numberAt_34 ?_
      refine j_bipush X (48 : Int32) dX11_numberAt_35 (by rfl) ?_
      refine j_isub X dX11_numberAt_37 ?_
      refine j_goto X 42 dX11_numberAt_38 (by decide) ?_
      refine j_lv [] rfl ?_
      exact hk5 (((((10 : Int32) * x2) + v3) - (48 : Int32)))
def f_X11_meetsTest (S : jS) (p1 : Int32) (p2 : Int32) (p3 : Int32) : Option (jR Unit) := jbin0 (f_X11_signOf S p1 p2) (fun v1 _ => jbin0 (f_X11_signOf S p1 ((p2 + (1 : Int32)))) (fun v2 _ => (if v1 = (42 : Int32) then chk (isb (1 : Int32)) (some (0, (1 : Int32), ())) else (if v1 = (116 : Int32) then chk (inb p3 20) (joinK (fun (x17 : Int32) => chk (isb x17) (some (0, x17, ()))) (fun k16 => (if (((S 360 p3.toNatClampNeg) >>> ((v2 - (48 : Int32)) &&& 31)) &&& (1 : Int32)) = (1 : Int32) then k16 (1 : Int32) else k16 (0 : Int32)))) else (if v1 = (64 : Int32) then chk (inb ((v2 - (48 : Int32))) 6) (joinK (fun (x14 : Int32) => chk (isb x14) (some (0, x14, ()))) (fun k13 => (if (((S 367 ((v2 - (48 : Int32))).toNatClampNeg) >>> (p3 &&& 31)) &&& (1 : Int32)) = (1 : Int32) then k13 (1 : Int32) else k13 (0 : Int32)))) else joinK (fun (x4 : Int32) => chk (inb ((((3 : Int32) * p3) + x4)) 60) (letE ((S 359 ((((3 : Int32) * p3) + x4)).toNatClampNeg)) fun x5 => jbin0 (f_X11_numberAt S p1 ((p2 + (2 : Int32)))) (fun v6 _ => joinK (fun (x8 : Int32) => chk (isb x8) (some (0, x8, ()))) (fun k7 => (if v2 = (61 : Int32) then (if x5 = v6 then k7 (1 : Int32) else k7 (0 : Int32)) else (if v2 = (60 : Int32) then (if v6 ≤ x5 then k7 (0 : Int32) else k7 (1 : Int32)) else (if x5 ≤ v6 then k7 (0 : Int32) else k7 (1 : Int32)))))))) (fun k3 => (if v1 = (108 : Int32) then k3 (0 : Int32) else (if v1 = (97 : Int32) then k3 (1 : Int32) else k3 (2 : Int32)))))))))
abbrev rm_X11_meetsTest : Room := { frames := 3, cells := 0, slots := 0, locals := 66 }
set_option maxHeartbeats 4000000 in
set_option maxRecDepth 100000 in
theorem c_X11_meetsTest {l : Launch} {D : va_G} {B t0 : Nat} (hl9 : l.stackTraces = false) (S : jS) (X9 : jMem) (z : Nat → Prop) (p1 : Int32) (p2 : Int32) (p3 : Int32) : jCf l D B t0 yX11_meetsTest cX11_meetsTest 8 (some .boolean) rm_X11_meetsTest [.ref (B + 358), .int p1, .int p2, .int p3] (memG 358 387 D B S X9) z (f_X11_meetsTest S p1 p2 p3) rvI (fun (S9 : Unit) M9 => M9 = memG 358 387 D B S X9) z := by
  refine jC_of hl9 (me_X11_meetsTest).1 [(0, .ref (B + 358)), (1, .int p1), (2, .int p2), (3, .int p3)] ⟨by decide +kernel, Nat.le_of_ble_eq_true rfl⟩ rfl (fun κ hl hD hB hT X htab hin => ?_)
  subst hl hD hB hT
  have X : jX κ RX11 cX11_meetsTest 8 (some .boolean) := X
  unfold f_X11_meetsTest
  refine j_aload_n X 0 rfl dX11_meetsTest_0 rfl ?_
  refine j_iload_n X 1 rfl dX11_meetsTest_1 rfl ?_
  refine j_iload_n X 2 rfl dX11_meetsTest_2 rfl ?_
  refine j_call0V X 0 0 (c_X11_signOf X.tr S X9 z p1 p2) me_X11_signOf ml_X11_124 iv_X11_signOf cf_X11 dX11_meetsTest_3 (memG_at kf_358) (rest := []) rfl rfl (by decide) (by decide) (Nat.le_of_ble_eq_true rfl) (fun v1 u24 M23 hM22 => ?_)
  subst M23
  refine j_st (st1 := [.int v1]) rfl ?_
  refine j_istore X [(4, .int v1), (0, .ref (kB κ + 358)), (1, .int p1), (2, .int p2), (3, .int p3)] dX11_meetsTest_6 (by decide) rfl ?_
  refine j_aload_n X 1 rfl dX11_meetsTest_8 rfl ?_
  refine j_iload_n X 2 rfl dX11_meetsTest_9 rfl ?_
  refine j_iload_n X 3 rfl dX11_meetsTest_10 rfl ?_
  refine j_iconst X (1 : Int32) dX11_meetsTest_11 (by rfl) ?_
  refine j_iadd X dX11_meetsTest_12 ?_
  refine j_call0V X 0 0 (c_X11_signOf X.tr S X9 z p1 ((p2 + (1 : Int32)))) me_X11_signOf ml_X11_124 iv_X11_signOf cf_X11 dX11_meetsTest_13 (memG_at kf_358) (rest := []) rfl rfl (by decide) (by decide) (Nat.le_of_ble_eq_true rfl) (fun v2 u21 M20 hM19 => ?_)
  subst M20
  refine j_st (st1 := [.int v2]) rfl ?_
  refine j_istore X [(5, .int v2), (4, .int v1), (0, .ref (kB κ + 358)), (1, .int p1), (2, .int p2), (3, .int p3)] dX11_meetsTest_16 (by decide) rfl ?_
  refine j_iload X 1 rfl dX11_meetsTest_18 ?_
  refine j_bipush X (42 : Int32) dX11_meetsTest_20 (by rfl) ?_
  refine j_icmp_ne X 27 dX11_meetsTest_22 (by decide) ?_ ?_
  · refine j_iconst X (1 : Int32) dX11_meetsTest_25 (by rfl) ?_
    exact j_zret X dX11_meetsTest_26 rfl (fun _ h => h)
  · refine j_iload X 1 rfl dX11_meetsTest_27 ?_
    refine j_bipush X (116 : Int32) dX11_meetsTest_29 (by rfl) ?_
    refine j_icmp_ne X 58 dX11_meetsTest_31 (by decide) ?_ ?_
    · refine j_aload_n X 2 rfl dX11_meetsTest_34 rfl ?_
      refine g_getf X 2 kf_358 cf_X11 (by decide) fl_X11_13 dX11_meetsTest_35 rfl rfl ?_
      refine j_iload_n X 5 rfl dX11_meetsTest_38 rfl ?_
      refine g_iald X 20 kf_360 (by decide) dX11_meetsTest_39 (fun h18 => ?_)
      refine j_iload X 0 rfl dX11_meetsTest_40 ?_
      refine j_bipush X (48 : Int32) dX11_meetsTest_42 (by rfl) ?_
      refine j_isub X dX11_meetsTest_44 ?_
      refine j_ishr X dX11_meetsTest_45 ?_
      refine j_iconst X (1 : Int32) dX11_meetsTest_46 (by rfl) ?_
      refine j_iand X dX11_meetsTest_47 ?_
      refine j_iconst X (1 : Int32) dX11_meetsTest_48 (by rfl) ?_
      refine j_join (fun k16 => ∀ (x17 : Int32), J κ 8 rm_X11_meetsTest (jQf κ rm_X11_meetsTest rvI (fun (S9 : Unit) M9 => M9 = memG 358 387 (kD κ) (kB κ) S X9) z) (k16 x17) (memG 358 387 (kD κ) (kB κ) S X9) z 0 0 [] 57 [.int x17]) ?_ (fun k16 hk16 => ?_)
      · intro x17
        exact j_zret X dX11_meetsTest_57 rfl (fun _ h => h)
      · refine j_icmp_ne X 56 dX11_meetsTest_49 (by decide) ?_ ?_
        · refine j_iconst X (1 : Int32) dX11_meetsTest_52 (by rfl) ?_
          refine j_goto X 57 dX11_meetsTest_53 (by decide) ?_
          refine j_lv [] rfl ?_
          exact hk16 (1 : Int32)
        · refine j_iconst X (0 : Int32) dX11_meetsTest_56 (by rfl) ?_
          refine j_lv [] rfl ?_
          exact hk16 (0 : Int32)
    · refine j_iload X 1 rfl dX11_meetsTest_58 ?_
      refine j_bipush X (64 : Int32) dX11_meetsTest_60 (by rfl) ?_
      refine j_icmp_ne X 89 dX11_meetsTest_62 (by decide) ?_ ?_
      · refine j_aload_n X 2 rfl dX11_meetsTest_65 rfl ?_
        refine g_getf X 10 kf_358 cf_X11 (by decide) fl_X11_34 dX11_meetsTest_66 rfl rfl ?_
        refine j_iload X 0 rfl dX11_meetsTest_69 ?_
        refine j_bipush X (48 : Int32) dX11_meetsTest_71 (by rfl) ?_
        refine j_isub X dX11_meetsTest_73 ?_
        refine g_iald X 6 kf_367 (by decide) dX11_meetsTest_74 (fun h15 => ?_)
        refine j_iload_n X 5 rfl dX11_meetsTest_75 rfl ?_
        refine j_ishr X dX11_meetsTest_76 ?_
        refine j_iconst X (1 : Int32) dX11_meetsTest_77 (by rfl) ?_
        refine j_iand X dX11_meetsTest_78 ?_
        refine j_iconst X (1 : Int32) dX11_meetsTest_79 (by rfl) ?_
        refine j_join (fun k13 => ∀ (x14 : Int32), J κ 8 rm_X11_meetsTest (jQf κ rm_X11_meetsTest rvI (fun (S9 : Unit) M9 => M9 = memG 358 387 (kD κ) (kB κ) S X9) z) (k13 x14) (memG 358 387 (kD κ) (kB κ) S X9) z 0 0 [] 88 [.int x14]) ?_ (fun k13 hk13 => ?_)
        · intro x14
          exact j_zret X dX11_meetsTest_88 rfl (fun _ h => h)
        · refine j_icmp_ne X 87 dX11_meetsTest_80 (by decide) ?_ ?_
          · refine j_iconst X (1 : Int32) dX11_meetsTest_83 (by rfl) ?_
            refine j_goto X 88 dX11_meetsTest_84 (by decide) ?_
            refine j_lv [] rfl ?_
            exact hk13 (1 : Int32)
          · refine j_iconst X (0 : Int32) dX11_meetsTest_87 (by rfl) ?_
            refine j_lv [] rfl ?_
            exact hk13 (0 : Int32)
      · refine j_aload_n X 2 rfl dX11_meetsTest_89 rfl ?_
        refine g_getf X 1 kf_358 cf_X11 (by decide) fl_X11_7 dX11_meetsTest_90 rfl rfl ?_
        refine j_iconst X (3 : Int32) dX11_meetsTest_93 (by rfl) ?_
        refine j_iload_n X 5 rfl dX11_meetsTest_94 rfl ?_
        refine j_imul X dX11_meetsTest_95 ?_
        refine j_iload X 1 rfl dX11_meetsTest_96 ?_
        refine j_bipush X (108 : Int32) dX11_meetsTest_98 (by rfl) ?_
        refine j_join (fun k3 => ∀ (x4 : Int32), J κ 8 rm_X11_meetsTest (jQf κ rm_X11_meetsTest rvI (fun (S9 : Unit) M9 => M9 = memG 358 387 (kD κ) (kB κ) S X9) z) (k3 x4) (memG 358 387 (kD κ) (kB κ) S X9) z 0 0 [(0, .ref (kB κ + 358)), (1, .int p1), (2, .int p2), (5, .int v2)] 119 [.int x4, .int ((3 : Int32) * p3), .ref (kB κ + 359)]) ?_ (fun k3 hk3 => ?_)
        · intro x4
          refine j_iadd X dX11_meetsTest_119 ?_
          refine g_iald X 60 kf_359 (by decide) dX11_meetsTest_120 (fun h12 => ?_)
          refine j_letE (fun x5 => ?_)
          refine j_istore X [(6, .int x5), (0, .ref (kB κ + 358)), (1, .int p1), (2, .int p2), (5, .int v2)] dX11_meetsTest_121 (by decide) rfl ?_
          refine j_aload_n X 1 rfl dX11_meetsTest_123 rfl ?_
          refine j_iload_n X 2 rfl dX11_meetsTest_124 rfl ?_
          refine j_iload_n X 3 rfl dX11_meetsTest_125 rfl ?_
          refine j_iconst X (2 : Int32) dX11_meetsTest_126 (by rfl) ?_
          refine j_iadd X dX11_meetsTest_127 ?_
          refine j_call0V X 0 0 (c_X11_numberAt X.tr S X9 z p1 ((p2 + (2 : Int32)))) me_X11_numberAt ml_X11_128 iv_X11_numberAt cf_X11 dX11_meetsTest_128 (memG_at kf_358) (rest := []) rfl rfl (by decide) (by decide) (Nat.le_of_ble_eq_true rfl) (fun v6 u11 M10 hM9 => ?_)
          subst M10
          refine j_st (st1 := [.int v6]) rfl ?_
          refine j_istore X [(7, .int v6), (6, .int x5), (0, .ref (kB κ + 358)), (1, .int p1), (2, .int p2), (5, .int v2)] dX11_meetsTest_131 (by decide) rfl ?_
          refine j_iload X 5 rfl dX11_meetsTest_133 ?_
          refine j_bipush X (61 : Int32) dX11_meetsTest_135 (by rfl) ?_
          refine j_join (fun k7 => ∀ (x8 : Int32), J κ 8 rm_X11_meetsTest (jQf κ rm_X11_meetsTest rvI (fun (S9 : Unit) M9 => M9 = memG 358 387 (kD κ) (kB κ) S X9) z) (k7 x8) (memG 358 387 (kD κ) (kB κ) S X9) z 0 0 [] 189 [.int x8]) ?_ (fun k7 hk7 => ?_)
          · intro x8
            exact j_zret X dX11_meetsTest_189 rfl (fun _ h => h)
          · refine j_icmp_ne X 155 dX11_meetsTest_137 (by decide) ?_ ?_
            · refine j_iload X 1 rfl dX11_meetsTest_140 ?_
              refine j_iload X 0 rfl dX11_meetsTest_142 ?_
              refine j_icmp_ne X 151 dX11_meetsTest_144 (by decide) ?_ ?_
              · refine j_iconst X (1 : Int32) dX11_meetsTest_147 (by rfl) ?_
                refine j_goto X 189 dX11_meetsTest_148 (by decide) ?_
                refine j_lv [] rfl ?_
                exact hk7 (1 : Int32)
              · refine j_iconst X (0 : Int32) dX11_meetsTest_151 (by rfl) ?_
                refine j_goto X 189 dX11_meetsTest_152 (by decide) ?_
                refine j_lv [] rfl ?_
                exact hk7 (0 : Int32)
            · refine j_iload X 5 rfl dX11_meetsTest_155 ?_
              refine j_bipush X (60 : Int32) dX11_meetsTest_157 (by rfl) ?_
              refine j_icmp_ne X 177 dX11_meetsTest_159 (by decide) ?_ ?_
              · refine j_iload X 1 rfl dX11_meetsTest_162 ?_
                refine j_iload X 0 rfl dX11_meetsTest_164 ?_
                refine j_icmp_ge X 173 dX11_meetsTest_166 (by decide) ?_ ?_
                · refine j_iconst X (0 : Int32) dX11_meetsTest_173 (by rfl) ?_
                  refine j_goto X 189 dX11_meetsTest_174 (by decide) ?_
                  refine j_lv [] rfl ?_
                  exact hk7 (0 : Int32)
                · refine j_iconst X (1 : Int32) dX11_meetsTest_169 (by rfl) ?_
                  refine j_goto X 189 dX11_meetsTest_170 (by decide) ?_
                  refine j_lv [] rfl ?_
                  exact hk7 (1 : Int32)
              · refine j_iload X 1 rfl dX11_meetsTest_177 ?_
                refine j_iload X 0 rfl dX11_meetsTest_179 ?_
                refine j_icmp_le X 188 dX11_meetsTest_181 (by decide) ?_ ?_
                · refine j_iconst X (0 : Int32) dX11_meetsTest_188 (by rfl) ?_
                  refine j_lv [] rfl ?_
                  exact hk7 (0 : Int32)
                · refine j_iconst X (1 : Int32) dX11_meetsTest_184 (by rfl) ?_
                  refine j_goto X 189 dX11_meetsTest_185 (by decide) ?_
                  refine j_lv [] rfl ?_
                  exact hk7 (1 : Int32)
        · refine j_icmp_ne X 107 dX11_meetsTest_100 (by decide) ?_ ?_
          · refine j_iconst X (0 : Int32) dX11_meetsTest_103 (by rfl) ?_
            refine j_goto X 119 dX11_meetsTest_104 (by decide) ?_
            refine j_lv [2, 3, 4, 0] rfl ?_
            exact hk3 (0 : Int32)
          · refine j_iload X 1 rfl dX11_meetsTest_107 ?_
            refine j_bipush X (97 : Int32) dX11_meetsTest_109 (by rfl) ?_
            refine j_icmp_ne X 118 dX11_meetsTest_111 (by decide) ?_ ?_
            · refine j_iconst X (1 : Int32) dX11_meetsTest_114 (by rfl) ?_
              refine j_goto X 119 dX11_meetsTest_115 (by decide) ?_
              refine j_lv [2, 3, 4, 0] rfl ?_
              exact hk3 (1 : Int32)
            · refine j_iconst X (2 : Int32) dX11_meetsTest_118 (by rfl) ?_
              refine j_lv [2, 3, 4, 0] rfl ?_
              exact hk3 (2 : Int32)
def f_X11_beginsTest (p0 : Int32) : Option (jR Unit) := joinK (fun (x3 : Int32) => chk (isb x3) (some (0, x3, ()))) (fun k1 => joinK (fun (_ : Unit) => k1 (1 : Int32)) (fun k2 => (if p0 = (42 : Int32) then k2 () else (if p0 = (108 : Int32) then k2 () else (if p0 = (97 : Int32) then k2 () else (if p0 = (112 : Int32) then k2 () else (if p0 = (116 : Int32) then k2 () else (if p0 = (64 : Int32) then k2 () else k1 (0 : Int32)))))))))
abbrev rm_X11_beginsTest : Room := { frames := 0, cells := 0, slots := 0, locals := 0 }
set_option maxHeartbeats 4000000 in
set_option maxRecDepth 100000 in
theorem c_X11_beginsTest {l : Launch} {D : va_G} {B t0 : Nat} (hl9 : l.stackTraces = false) (M : jMem) (z : Nat → Prop) (p0 : Int32) : jCf l D B t0 yX11_beginsTest cX11_beginsTest 1 (some .boolean) rm_X11_beginsTest [.int p0] M z (f_X11_beginsTest p0) rvI (fun (S9 : Unit) M9 => M9 = M) z := by
  refine jC_of hl9 (me_X11_beginsTest).1 [(0, .int p0)] ⟨by decide +kernel, Nat.le_of_ble_eq_true rfl⟩ rfl (fun κ hl hD hB hT X htab hin => ?_)
  subst hl hD hB hT
  have X : jX κ RX11 cX11_beginsTest 1 (some .boolean) := X
  unfold f_X11_beginsTest
  refine j_iload_n X 0 rfl dX11_beginsTest_0 rfl ?_
  refine j_bipush X (42 : Int32) dX11_beginsTest_1 (by rfl) ?_
  refine j_join (fun k1 => ∀ (x3 : Int32), J κ 1 rm_X11_beginsTest (jQf κ rm_X11_beginsTest rvI (fun (S9 : Unit) M9 => M9 = M) z) (k1 x3) M z 0 0 [] 41 [.int x3]) ?_ (fun k1 hk1 => ?_)
  · intro x3
    exact j_zret X dX11_beginsTest_41 rfl (fun _ h => h)
  · refine j_join (fun k2 => ∀ (_ : Unit), J κ 1 rm_X11_beginsTest (jQf κ rm_X11_beginsTest rvI (fun (S9 : Unit) M9 => M9 = M) z) (k2 ()) M z 0 0 [] 36 []) ?_ (fun k2 hk2 => ?_)
    · intro _
      refine j_iconst X (1 : Int32) dX11_beginsTest_36 (by rfl) ?_
      refine j_goto X 41 dX11_beginsTest_37 (by decide) ?_
      exact hk1 (1 : Int32)
    · refine j_icmp_eq X 36 dX11_beginsTest_3 (by decide) ?_ ?_
      · refine j_lv [] rfl ?_
        exact hk2 ()
      · refine j_iload_n X 0 rfl dX11_beginsTest_6 rfl ?_
        refine j_bipush X (108 : Int32) dX11_beginsTest_7 (by rfl) ?_
        refine j_icmp_eq X 36 dX11_beginsTest_9 (by decide) ?_ ?_
        · refine j_lv [] rfl ?_
          exact hk2 ()
        · refine j_iload_n X 0 rfl dX11_beginsTest_12 rfl ?_
          refine j_bipush X (97 : Int32) dX11_beginsTest_13 (by rfl) ?_
          refine j_icmp_eq X 36 dX11_beginsTest_15 (by decide) ?_ ?_
          · refine j_lv [] rfl ?_
            exact hk2 ()
          · refine j_iload_n X 0 rfl dX11_beginsTest_18 rfl ?_
            refine j_bipush X (112 : Int32) dX11_beginsTest_19 (by rfl) ?_
            refine j_icmp_eq X 36 dX11_beginsTest_21 (by decide) ?_ ?_
            · refine j_lv [] rfl ?_
              exact hk2 ()
            · refine j_iload_n X 0 rfl dX11_beginsTest_24 rfl ?_
              refine j_bipush X (116 : Int32) dX11_beginsTest_25 (by rfl) ?_
              refine j_icmp_eq X 36 dX11_beginsTest_27 (by decide) ?_ ?_
              · refine j_lv [] rfl ?_
                exact hk2 ()
              · refine j_iload_n X 0 rfl dX11_beginsTest_30 rfl ?_
                refine j_bipush X (64 : Int32) dX11_beginsTest_31 (by rfl) ?_
                refine j_icmp_ne X 40 dX11_beginsTest_33 (by decide) ?_ ?_
                · refine j_lv [] rfl ?_
                  exact hk2 ()
                · refine j_iconst X (0 : Int32) dX11_beginsTest_40 (by rfl) ?_
                  refine j_lv [] rfl ?_
                  exact hk1 (0 : Int32)
def f_X11_meets (S : jS) (p1 : Int32) (p2 : Int32) : Option (jR jS) := chk (inb (0 : Int32) 10) (letE (jset S 369 (0 : Int32).toNatClampNeg (vp_nar .boolean (0 : Int32))) fun S1 => chk (inb (0 : Int32) 10) (letE (jset S1 370 (0 : Int32).toNatClampNeg (vp_nar .boolean (1 : Int32))) fun S2 => loopK (fun (rec3 : jS → Int32 → Int32 → Int32 → Option (jR jS)) (S4 : jS) (x5 : Int32) (x6 : Int32) (x7 : Int32) => chk (inb p1 6) ((if (S4 364 p1.toNatClampNeg) ≤ x7 then chk (inb p1 6) (joinK (fun (x13 : Int32) => chk (isb x13) (some (0, x13, S4))) (fun k8 => joinK (fun (_ : Unit) => k8 (0 : Int32)) (fun k9 => (if (S4 364 p1.toNatClampNeg) ≤ (0 : Int32) then k9 () else chk (inb (0 : Int32) 10) (joinK (fun (_ : Unit) => k8 (1 : Int32)) (fun k10 => (if (S4 369 (0 : Int32).toNatClampNeg) = (0 : Int32) then chk (inb (0 : Int32) 10) ((if (S4 370 (0 : Int32).toNatClampNeg) = (0 : Int32) then k9 () else k10 ())) else k10 ()))))))) else jbin0 (f_X11_signOf S4 p1 x7) (fun v15 _ => jbin0 (f_X11_beginsTest v15) (fun v16 _ => joinK (fun (S59 : jS) (x60 : Int32) (x61 : Int32) => letE (x7 + (1 : Int32)) fun x62 => rec3 S59 x60 x61 x62) (fun k17 => (if v16 = (0 : Int32) then (if v15 = (33 : Int32) then joinK (fun (x48 : Int32) => k17 S4 x5 x48) (fun k47 => (if x6 = (0 : Int32) then k47 (1 : Int32) else k47 (0 : Int32))) else (if v15 = (124 : Int32) then chk (inb x5 10) (joinK (fun (x41 : Int32) => chk (inb x5 10) (letE (jset S4 369 x5.toNatClampNeg (vp_nar .boolean x41)) fun S42 => chk (inb x5 10) (letE (jset S42 370 x5.toNatClampNeg (vp_nar .boolean (1 : Int32))) fun S43 => k17 S43 x5 x6))) (fun k38 => joinK (fun (_ : Unit) => k38 (1 : Int32)) (fun k39 => (if (S4 369 x5.toNatClampNeg) = (0 : Int32) then chk (inb x5 10) ((if (S4 370 x5.toNatClampNeg) = (0 : Int32) then k38 (0 : Int32) else k39 ())) else k39 ())))) else (if v15 = (40 : Int32) then chk (inb x5 10) (letE (jset S4 371 x5.toNatClampNeg (vp_nar .boolean x6)) fun S31 => letE (x5 + (1 : Int32)) fun x32 => chk (inb x32 10) (letE (jset S31 369 x32.toNatClampNeg (vp_nar .boolean (0 : Int32))) fun S33 => chk (inb x32 10) (letE (jset S33 370 x32.toNatClampNeg (vp_nar .boolean (1 : Int32))) fun S34 => k17 S34 x32 (0 : Int32)))) else (if v15 = (41 : Int32) then chk (inb x5 10) (joinK (fun (x21 : Int32) => letE (x5 + (-1 : Int32)) fun x22 => chk (inb x22 10) (joinK (fun (x26 : Int32) => chk (inb x22 10) (letE (jset S4 370 x22.toNatClampNeg (vp_nar .boolean x26)) fun S27 => k17 S27 x22 x6)) (fun k23 => joinK (fun (_ : Unit) => k23 (0 : Int32)) (fun k24 => (if (S4 370 x22.toNatClampNeg) = (0 : Int32) then k24 () else chk (inb x22 10) ((if x21 = (S4 371 x22.toNatClampNeg) then k24 () else k23 (1 : Int32)))))))) (fun k18 => joinK (fun (_ : Unit) => k18 (1 : Int32)) (fun k19 => (if (S4 369 x5.toNatClampNeg) = (0 : Int32) then chk (inb x5 10) ((if (S4 370 x5.toNatClampNeg) = (0 : Int32) then k18 (0 : Int32) else k19 ())) else k19 ())))) else k17 S4 x5 x6)))) else chk (inb x5 10) (joinK (fun (x55 : Int32) => chk (inb x5 10) (letE (jset S4 370 x5.toNatClampNeg (vp_nar .boolean x55)) fun S56 => k17 S56 x5 (0 : Int32))) (fun k49 => joinK (fun (_ : Unit) => k49 (0 : Int32)) (fun k50 => (if (S4 370 x5.toNatClampNeg) = (0 : Int32) then k50 () else jbin0 (f_X11_meetsTest S4 p1 x7 p2) (fun v51 _ => (if v51 = x6 then k50 () else k49 (1 : Int32)))))))))))))) (fun _ _ _ _ => none) 1000 S2 (0 : Int32) (0 : Int32) (0 : Int32)))
abbrev rm_X11_meets : Room := { frames := 4, cells := 0, slots := 0, locals := 93 }
set_option maxHeartbeats 4000000 in
set_option maxRecDepth 100000 in
theorem c_X11_meets {l : Launch} {D : va_G} {B t0 : Nat} (hl9 : l.stackTraces = false) (S : jS) (X9 : jMem) (z : Nat → Prop) (p1 : Int32) (p2 : Int32) : jCf l D B t0 yX11_meets cX11_meets 8 (some .boolean) rm_X11_meets [.ref (B + 358), .int p1, .int p2] (memG 358 387 D B S X9) z (f_X11_meets S p1 p2) rvI (fun S9 M9 => M9 = memG 358 387 D B S9 X9) z := by
  refine jC_of hl9 (me_X11_meets).1 [(0, .ref (B + 358)), (1, .int p1), (2, .int p2)] ⟨by decide +kernel, Nat.le_of_ble_eq_true rfl⟩ rfl (fun κ hl hD hB hT X htab hin => ?_)
  subst hl hD hB hT
  have X : jX κ RX11 cX11_meets 8 (some .boolean) := X
  unfold f_X11_meets
  refine j_iconst X (0 : Int32) dX11_meets_0 (by rfl) ?_
  refine j_istore_n X [(3, .int (0 : Int32)), (0, .ref (kB κ + 358)), (1, .int p1), (2, .int p2)] dX11_meets_1 rfl (by decide) rfl ?_
  refine j_iconst X (0 : Int32) dX11_meets_2 (by rfl) ?_
  refine j_istore X [(4, .int (0 : Int32)), (3, .int (0 : Int32)), (0, .ref (kB κ + 358)), (1, .int p1), (2, .int p2)] dX11_meets_3 (by decide) rfl ?_
  refine j_aload_n X 2 rfl dX11_meets_5 rfl ?_
  refine g_getf X 12 kf_358 cf_X11 (by decide) fl_X11_40 dX11_meets_6 rfl rfl ?_
  refine j_iconst X (0 : Int32) dX11_meets_9 (by rfl) ?_
  refine j_iconst X (0 : Int32) dX11_meets_10 (by rfl) ?_
  refine g_zast X 10 kf_369 (by decide) dX11_meets_11 (fun h71 S1 => ?_)
  refine j_aload_n X 2 rfl dX11_meets_12 rfl ?_
  refine g_getf X 13 kf_358 cf_X11 (by decide) fl_X11_44 dX11_meets_13 rfl rfl ?_
  refine j_iconst X (0 : Int32) dX11_meets_16 (by rfl) ?_
  refine j_iconst X (1 : Int32) dX11_meets_17 (by rfl) ?_
  refine g_zast X 10 kf_370 (by decide) dX11_meets_18 (fun h70 S2 => ?_)
  refine j_iconst X (0 : Int32) dX11_meets_19 (by rfl) ?_
  refine j_istore X [(5, .int (0 : Int32)), (4, .int (0 : Int32)), (3, .int (0 : Int32)), (0, .ref (kB κ + 358)), (1, .int p1), (2, .int p2)] dX11_meets_20 (by decide) rfl ?_
  refine j_lv [3, 4, 5, 2, 1, 0] rfl ?_
  refine j_loop (fun (k : jS → Int32 → Int32 → Int32 → Option (jR jS)) => ∀ (S4 : jS) (x5 : Int32) (x6 : Int32) (x7 : Int32), J κ 8 rm_X11_meets (jQf κ rm_X11_meets rvI (fun S9 M9 => M9 = memG 358 387 (kD κ) (kB κ) S9 X9) z) (k S4 x5 x6 x7) (memG 358 387 (kD κ) (kB κ) S4 X9) z 0 0 [(0, .ref (kB κ + 358)), (1, .int p1), (2, .int p2), (3, .int x5), (4, .int x6), (5, .int x7)] 22 []) (fun _ _ _ _ => j_none) (fun rec3 hrec3 => ?_) 1000 _ _ _ _
  intro S4 x5 x6 x7
  refine j_iload X 5 rfl dX11_meets_22 ?_
  refine j_aload_n X 0 rfl dX11_meets_24 rfl ?_
  refine g_getf X 6 kf_358 cf_X11 (by decide) fl_X11_25 dX11_meets_25 rfl rfl ?_
  refine j_iload_n X 1 rfl dX11_meets_28 rfl ?_
  refine g_iald X 6 kf_364 (by decide) dX11_meets_29 (fun h69 => ?_)
  refine j_icmp_ge X 267 dX11_meets_30 (by decide) ?_ ?_
  · refine j_aload_n X 0 rfl dX11_meets_267 rfl ?_
    refine g_getf X 6 kf_358 cf_X11 (by decide) fl_X11_25 dX11_meets_268 rfl rfl ?_
    refine j_iload_n X 1 rfl dX11_meets_271 rfl ?_
    refine g_iald X 6 kf_364 (by decide) dX11_meets_272 (fun h14 => ?_)
    refine j_join (fun k8 => ∀ (x13 : Int32), J κ 8 rm_X11_meets (jQf κ rm_X11_meets rvI (fun S9 M9 => M9 = memG 358 387 (kD κ) (kB κ) S9 X9) z) (k8 x13) (memG 358 387 (kD κ) (kB κ) S4 X9) z 0 0 [] 299 [.int x13]) ?_ (fun k8 hk8 => ?_)
    · intro x13
      exact j_zret X dX11_meets_299 rfl (fun _ h => h)
    · refine j_join (fun k9 => ∀ (_ : Unit), J κ 8 rm_X11_meets (jQf κ rm_X11_meets rvI (fun S9 M9 => M9 = memG 358 387 (kD κ) (kB κ) S9 X9) z) (k9 ()) (memG 358 387 (kD κ) (kB κ) S4 X9) z 0 0 [] 298 []) ?_ (fun k9 hk9 => ?_)
      · intro _
        refine j_iconst X (0 : Int32) dX11_meets_298 (by rfl) ?_
        exact hk8 (0 : Int32)
      · refine j_if_le X 298 dX11_meets_273 (by decide) ?_ ?_
        · refine j_lv [] rfl ?_
          exact hk9 ()
        · refine j_aload_n X 0 rfl dX11_meets_276 rfl ?_
          refine g_getf X 12 kf_358 cf_X11 (by decide) fl_X11_40 dX11_meets_277 rfl rfl ?_
          refine j_iconst X (0 : Int32) dX11_meets_280 (by rfl) ?_
          refine g_zald X 10 kf_369 (by decide) dX11_meets_281 (fun h12 => ?_)
          refine j_join (fun k10 => ∀ (_ : Unit), J κ 8 rm_X11_meets (jQf κ rm_X11_meets rvI (fun S9 M9 => M9 = memG 358 387 (kD κ) (kB κ) S9 X9) z) (k10 ()) (memG 358 387 (kD κ) (kB κ) S4 X9) z 0 0 [] 294 []) ?_ (fun k10 hk10 => ?_)
          · intro _
            refine j_iconst X (1 : Int32) dX11_meets_294 (by rfl) ?_
            refine j_goto X 299 dX11_meets_295 (by decide) ?_
            exact hk8 (1 : Int32)
          · refine j_if_ne X 294 dX11_meets_282 (by decide) ?_ ?_
            · refine j_aload_n X 0 rfl dX11_meets_285 rfl ?_
              refine g_getf X 13 kf_358 cf_X11 (by decide) fl_X11_44 dX11_meets_286 rfl rfl ?_
              refine j_iconst X (0 : Int32) dX11_meets_289 (by rfl) ?_
              refine g_zald X 10 kf_370 (by decide) dX11_meets_290 (fun h11 => ?_)
              refine j_if_eq X 298 dX11_meets_291 (by decide) ?_ ?_
              · refine j_lv [] rfl ?_
                exact hk9 ()
              · refine j_lv [] rfl ?_
                exact hk10 ()
            · refine j_lv [] rfl ?_
              exact hk10 ()
  · refine j_aload_n X 0 rfl dX11_meets_33 rfl ?_
    refine j_iload_n X 1 rfl dX11_meets_34 rfl ?_
    refine j_iload X 5 rfl dX11_meets_35 ?_
    refine j_call0V X 0 0 (c_X11_signOf X.tr S4 X9 z p1 x7) me_X11_signOf ml_X11_124 iv_X11_signOf cf_X11 dX11_meets_37 (memG_at kf_358) (rest := []) rfl rfl (by decide) (by decide) (Nat.le_of_ble_eq_true rfl) (fun v15 u68 M67 hM66 => ?_)
    subst M67
    refine j_st (st1 := [.int v15]) rfl ?_
    refine j_istore X [(6, .int v15), (0, .ref (kB κ + 358)), (1, .int p1), (2, .int p2), (3, .int x5), (4, .int x6), (5, .int x7)] dX11_meets_40 (by decide) rfl ?_
    refine j_iload X 0 rfl dX11_meets_42 ?_
    refine j_call0S X 0 0 (c_X11_beginsTest X.tr (memG 358 387 (kD κ) (kB κ) S4 X9) z v15) me_X11_beginsTest ml_X11_131 st_X11_beginsTest dX11_meets_44 (rest := []) rfl rfl (by decide) (by decide) (Nat.le_of_ble_eq_true rfl) (fun v16 u65 M64 hM63 => ?_)
    subst M64
    refine j_st (st1 := [.int v16]) rfl ?_
    refine j_join (fun k17 => ∀ (S59 : jS) (x60 : Int32) (x61 : Int32), J κ 8 rm_X11_meets (jQf κ rm_X11_meets rvI (fun S9 M9 => M9 = memG 358 387 (kD κ) (kB κ) S9 X9) z) (k17 S59 x60 x61) (memG 358 387 (kD κ) (kB κ) S59 X9) z 0 0 [(0, .ref (kB κ + 358)), (1, .int p1), (2, .int p2), (3, .int x60), (4, .int x61), (5, .int x7)] 261 []) ?_ (fun k17 hk17 => ?_)
    · intro S59 x60 x61
      refine j_iincL X 5 (fun x62 => [(5, .int x62), (0, .ref (kB κ + 358)), (1, .int p1), (2, .int p2), (3, .int x60), (4, .int x61)]) dX11_meets_261 rfl (by rfl) (by decide) (fun _ => rfl) (fun x62 => ?_)
      refine j_goto X 22 dX11_meets_264 (by decide) ?_
      refine j_lv [1, 2, 3, 4, 5, 0] rfl ?_
      exact hrec3 S59 x60 x61 x62
    · refine j_if_eq X 89 dX11_meets_47 (by decide) ?_ ?_
      · refine j_iload X 0 rfl dX11_meets_89 ?_
        refine j_bipush X (33 : Int32) dX11_meets_91 (by rfl) ?_
        refine j_icmp_ne X 111 dX11_meets_93 (by decide) ?_ ?_
        · refine j_iload X 5 rfl dX11_meets_96 ?_
          refine j_join (fun k47 => ∀ (x48 : Int32), J κ 8 rm_X11_meets (jQf κ rm_X11_meets rvI (fun S9 M9 => M9 = memG 358 387 (kD κ) (kB κ) S9 X9) z) (k47 x48) (memG 358 387 (kD κ) (kB κ) S4 X9) z 0 0 [(0, .ref (kB κ + 358)), (1, .int p1), (2, .int p2), (3, .int x5), (5, .int x7)] 106 [.int x48]) ?_ (fun k47 hk47 => ?_)
          · intro x48
            refine j_istore X [(4, .int x48), (0, .ref (kB κ + 358)), (1, .int p1), (2, .int p2), (3, .int x5), (5, .int x7)] dX11_meets_106 (by decide) rfl ?_
            refine j_goto X 261 dX11_meets_108 (by decide) ?_
            refine j_lv [1, 2, 3, 4, 0, 5] rfl ?_
            exact hk17 S4 x5 x48
          · refine j_if_ne X 105 dX11_meets_98 (by decide) ?_ ?_
            · refine j_iconst X (1 : Int32) dX11_meets_101 (by rfl) ?_
              refine j_goto X 106 dX11_meets_102 (by decide) ?_
              refine j_lv [1, 2, 3, 4, 6] rfl ?_
              exact hk47 (1 : Int32)
            · refine j_iconst X (0 : Int32) dX11_meets_105 (by rfl) ?_
              refine j_lv [1, 2, 3, 4, 6] rfl ?_
              exact hk47 (0 : Int32)
        · refine j_iload X 0 rfl dX11_meets_111 ?_
          refine j_bipush X (124 : Int32) dX11_meets_113 (by rfl) ?_
          refine j_icmp_ne X 157 dX11_meets_115 (by decide) ?_ ?_
          · refine j_aload_n X 1 rfl dX11_meets_118 rfl ?_
            refine g_getf X 12 kf_358 cf_X11 (by decide) fl_X11_40 dX11_meets_119 rfl rfl ?_
            refine j_iload_n X 4 rfl dX11_meets_122 rfl ?_
            refine j_aload_n X 1 rfl dX11_meets_123 rfl ?_
            refine g_getf X 12 kf_358 cf_X11 (by decide) fl_X11_40 dX11_meets_124 rfl rfl ?_
            refine j_iload_n X 4 rfl dX11_meets_127 rfl ?_
            refine g_zald X 10 kf_369 (by decide) dX11_meets_128 (fun h46 => ?_)
            refine j_join (fun k38 => ∀ (x41 : Int32), J κ 8 rm_X11_meets (jQf κ rm_X11_meets rvI (fun S9 M9 => M9 = memG 358 387 (kD κ) (kB κ) S9 X9) z) (k38 x41) (memG 358 387 (kD κ) (kB κ) S4 X9) z 0 0 [(0, .ref (kB κ + 358)), (1, .int p1), (2, .int p2), (3, .int x5), (4, .int x6), (5, .int x7)] 146 [.int x41, .int x5, .ref (kB κ + 369)]) ?_ (fun k38 hk38 => ?_)
            · intro x41
              refine g_zast X 10 kf_369 (by decide) dX11_meets_146 (fun h45 S42 => ?_)
              refine j_aload_n X 0 rfl dX11_meets_147 rfl ?_
              refine g_getf X 13 kf_358 cf_X11 (by decide) fl_X11_44 dX11_meets_148 rfl rfl ?_
              refine j_iload_n X 3 rfl dX11_meets_151 rfl ?_
              refine j_iconst X (1 : Int32) dX11_meets_152 (by rfl) ?_
              refine g_zast X 10 kf_370 (by decide) dX11_meets_153 (fun h44 S43 => ?_)
              refine j_goto X 261 dX11_meets_154 (by decide) ?_
              exact hk17 S43 x5 x6
            · refine j_join (fun k39 => ∀ (_ : Unit), J κ 8 rm_X11_meets (jQf κ rm_X11_meets rvI (fun S9 M9 => M9 = memG 358 387 (kD κ) (kB κ) S9 X9) z) (k39 ()) (memG 358 387 (kD κ) (kB κ) S4 X9) z 0 0 [(0, .ref (kB κ + 358)), (1, .int p1), (2, .int p2), (3, .int x5), (4, .int x6), (5, .int x7)] 141 [.int x5, .ref (kB κ + 369)]) ?_ (fun k39 hk39 => ?_)
              · intro _
                refine j_iconst X (1 : Int32) dX11_meets_141 (by rfl) ?_
                refine j_goto X 146 dX11_meets_142 (by decide) ?_
                exact hk38 (1 : Int32)
              · refine j_if_ne X 141 dX11_meets_129 (by decide) ?_ ?_
                · refine j_aload_n X 1 rfl dX11_meets_132 rfl ?_
                  refine g_getf X 13 kf_358 cf_X11 (by decide) fl_X11_44 dX11_meets_133 rfl rfl ?_
                  refine j_iload_n X 4 rfl dX11_meets_136 rfl ?_
                  refine g_zald X 10 kf_370 (by decide) dX11_meets_137 (fun h40 => ?_)
                  refine j_if_eq X 145 dX11_meets_138 (by decide) ?_ ?_
                  · refine j_iconst X (0 : Int32) dX11_meets_145 (by rfl) ?_
                    refine j_lv [1, 2, 3, 4, 5, 6] rfl ?_
                    exact hk38 (0 : Int32)
                  · refine j_lv [1, 2, 3, 4, 5, 6] rfl ?_
                    exact hk39 ()
                · refine j_lv [1, 2, 3, 4, 5, 6] rfl ?_
                  exact hk39 ()
          · refine j_iload X 0 rfl dX11_meets_157 ?_
            refine j_bipush X (40 : Int32) dX11_meets_159 (by rfl) ?_
            refine j_icmp_ne X 195 dX11_meets_161 (by decide) ?_ ?_
            · refine j_aload_n X 1 rfl dX11_meets_164 rfl ?_
              refine g_getf X 14 kf_358 cf_X11 (by decide) fl_X11_47 dX11_meets_165 rfl rfl ?_
              refine j_iload_n X 4 rfl dX11_meets_168 rfl ?_
              refine j_iload X 5 rfl dX11_meets_169 ?_
              refine g_zast X 10 kf_371 (by decide) dX11_meets_171 (fun h37 S31 => ?_)
              refine j_iconst X (0 : Int32) dX11_meets_172 (by rfl) ?_
              refine j_istore X [(4, .int (0 : Int32)), (6, .int v15), (0, .ref (kB κ + 358)), (1, .int p1), (2, .int p2), (3, .int x5), (5, .int x7)] dX11_meets_173 (by decide) rfl ?_
              refine j_iincL X 5 (fun x32 => [(3, .int x32), (4, .int (0 : Int32)), (6, .int v15), (0, .ref (kB κ + 358)), (1, .int p1), (2, .int p2), (5, .int x7)]) dX11_meets_175 rfl (by rfl) (by decide) (fun _ => rfl) (fun x32 => ?_)
              refine j_aload_n X 3 rfl dX11_meets_178 rfl ?_
              refine g_getf X 12 kf_358 cf_X11 (by decide) fl_X11_40 dX11_meets_179 rfl rfl ?_
              refine j_iload_n X 0 rfl dX11_meets_182 rfl ?_
              refine j_iconst X (0 : Int32) dX11_meets_183 (by rfl) ?_
              refine g_zast X 10 kf_369 (by decide) dX11_meets_184 (fun h36 S33 => ?_)
              refine j_aload_n X 3 rfl dX11_meets_185 rfl ?_
              refine g_getf X 13 kf_358 cf_X11 (by decide) fl_X11_44 dX11_meets_186 rfl rfl ?_
              refine j_iload_n X 0 rfl dX11_meets_189 rfl ?_
              refine j_iconst X (1 : Int32) dX11_meets_190 (by rfl) ?_
              refine g_zast X 10 kf_370 (by decide) dX11_meets_191 (fun h35 S34 => ?_)
              refine j_goto X 261 dX11_meets_192 (by decide) ?_
              refine j_lv [3, 4, 5, 0, 1, 6] rfl ?_
              exact hk17 S34 x32 (0 : Int32)
            · refine j_iload X 0 rfl dX11_meets_195 ?_
              refine j_bipush X (41 : Int32) dX11_meets_197 (by rfl) ?_
              refine j_icmp_ne X 261 dX11_meets_199 (by decide) ?_ ?_
              · refine j_aload_n X 1 rfl dX11_meets_202 rfl ?_
                refine g_getf X 12 kf_358 cf_X11 (by decide) fl_X11_40 dX11_meets_203 rfl rfl ?_
                refine j_iload_n X 4 rfl dX11_meets_206 rfl ?_
                refine g_zald X 10 kf_369 (by decide) dX11_meets_207 (fun h30 => ?_)
                refine j_join (fun k18 => ∀ (x21 : Int32), J κ 8 rm_X11_meets (jQf κ rm_X11_meets rvI (fun S9 M9 => M9 = memG 358 387 (kD κ) (kB κ) S9 X9) z) (k18 x21) (memG 358 387 (kD κ) (kB κ) S4 X9) z 0 0 [(0, .ref (kB κ + 358)), (1, .int p1), (2, .int p2), (3, .int x5), (4, .int x6), (5, .int x7)] 225 [.int x21]) ?_ (fun k18 hk18 => ?_)
                · intro x21
                  refine j_istore X [(7, .int x21), (0, .ref (kB κ + 358)), (1, .int p1), (2, .int p2), (3, .int x5), (4, .int x6), (5, .int x7)] dX11_meets_225 (by decide) rfl ?_
                  refine j_iincL X 4 (fun x22 => [(3, .int x22), (7, .int x21), (0, .ref (kB κ + 358)), (1, .int p1), (2, .int p2), (4, .int x6), (5, .int x7)]) dX11_meets_227 rfl (by rfl) (by decide) (fun _ => rfl) (fun x22 => ?_)
                  refine j_aload_n X 2 rfl dX11_meets_230 rfl ?_
                  refine g_getf X 13 kf_358 cf_X11 (by decide) fl_X11_44 dX11_meets_231 rfl rfl ?_
                  refine j_iload_n X 0 rfl dX11_meets_234 rfl ?_
                  refine j_aload_n X 2 rfl dX11_meets_235 rfl ?_
                  refine g_getf X 13 kf_358 cf_X11 (by decide) fl_X11_44 dX11_meets_236 rfl rfl ?_
                  refine j_iload_n X 0 rfl dX11_meets_239 rfl ?_
                  refine g_zald X 10 kf_370 (by decide) dX11_meets_240 (fun h29 => ?_)
                  refine j_join (fun k23 => ∀ (x26 : Int32), J κ 8 rm_X11_meets (jQf κ rm_X11_meets rvI (fun S9 M9 => M9 = memG 358 387 (kD κ) (kB κ) S9 X9) z) (k23 x26) (memG 358 387 (kD κ) (kB κ) S4 X9) z 0 0 [(0, .ref (kB κ + 358)), (1, .int p1), (2, .int p2), (3, .int x22), (4, .int x6), (5, .int x7)] 260 [.int x26, .int x22, .ref (kB κ + 370)]) ?_ (fun k23 hk23 => ?_)
                  · intro x26
                    refine g_zast X 10 kf_370 (by decide) dX11_meets_260 (fun h28 S27 => ?_)
                    exact hk17 S27 x22 x6
                  · refine j_join (fun k24 => ∀ (_ : Unit), J κ 8 rm_X11_meets (jQf κ rm_X11_meets rvI (fun S9 M9 => M9 = memG 358 387 (kD κ) (kB κ) S9 X9) z) (k24 ()) (memG 358 387 (kD κ) (kB κ) S4 X9) z 0 0 [(0, .ref (kB κ + 358)), (1, .int p1), (2, .int p2), (3, .int x22), (4, .int x6), (5, .int x7)] 259 [.int x22, .ref (kB κ + 370)]) ?_ (fun k24 hk24 => ?_)
                    · intro _
                      refine j_iconst X (0 : Int32) dX11_meets_259 (by rfl) ?_
                      exact hk23 (0 : Int32)
                    · refine j_if_eq X 259 dX11_meets_241 (by decide) ?_ ?_
                      · refine j_lv [2, 3, 4, 0, 5, 6] rfl ?_
                        exact hk24 ()
                      · refine j_iload X 1 rfl dX11_meets_244 ?_
                        refine j_aload_n X 2 rfl dX11_meets_246 rfl ?_
                        refine g_getf X 14 kf_358 cf_X11 (by decide) fl_X11_47 dX11_meets_247 rfl rfl ?_
                        refine j_iload_n X 0 rfl dX11_meets_250 rfl ?_
                        refine g_zald X 10 kf_371 (by decide) dX11_meets_251 (fun h25 => ?_)
                        refine j_icmp_eq X 259 dX11_meets_252 (by decide) ?_ ?_
                        · refine j_lv [2, 3, 4, 0, 5, 6] rfl ?_
                          exact hk24 ()
                        · refine j_iconst X (1 : Int32) dX11_meets_255 (by rfl) ?_
                          refine j_goto X 260 dX11_meets_256 (by decide) ?_
                          refine j_lv [2, 3, 4, 0, 5, 6] rfl ?_
                          exact hk23 (1 : Int32)
                · refine j_join (fun k19 => ∀ (_ : Unit), J κ 8 rm_X11_meets (jQf κ rm_X11_meets rvI (fun S9 M9 => M9 = memG 358 387 (kD κ) (kB κ) S9 X9) z) (k19 ()) (memG 358 387 (kD κ) (kB κ) S4 X9) z 0 0 [(0, .ref (kB κ + 358)), (1, .int p1), (2, .int p2), (3, .int x5), (4, .int x6), (5, .int x7)] 220 []) ?_ (fun k19 hk19 => ?_)
                  · intro _
                    refine j_iconst X (1 : Int32) dX11_meets_220 (by rfl) ?_
                    refine j_goto X 225 dX11_meets_221 (by decide) ?_
                    exact hk18 (1 : Int32)
                  · refine j_if_ne X 220 dX11_meets_208 (by decide) ?_ ?_
                    · refine j_aload_n X 1 rfl dX11_meets_211 rfl ?_
                      refine g_getf X 13 kf_358 cf_X11 (by decide) fl_X11_44 dX11_meets_212 rfl rfl ?_
                      refine j_iload_n X 4 rfl dX11_meets_215 rfl ?_
                      refine g_zald X 10 kf_370 (by decide) dX11_meets_216 (fun h20 => ?_)
                      refine j_if_eq X 224 dX11_meets_217 (by decide) ?_ ?_
                      · refine j_iconst X (0 : Int32) dX11_meets_224 (by rfl) ?_
                        refine j_lv [1, 2, 3, 4, 5, 6] rfl ?_
                        exact hk18 (0 : Int32)
                      · refine j_lv [1, 2, 3, 4, 5, 6] rfl ?_
                        exact hk19 ()
                    · refine j_lv [1, 2, 3, 4, 5, 6] rfl ?_
                      exact hk19 ()
              · refine j_lv [1, 2, 3, 4, 5, 6] rfl ?_
                exact hk17 S4 x5 x6
      · refine j_aload_n X 1 rfl dX11_meets_50 rfl ?_
        refine g_getf X 13 kf_358 cf_X11 (by decide) fl_X11_44 dX11_meets_51 rfl rfl ?_
        refine j_iload_n X 4 rfl dX11_meets_54 rfl ?_
        refine j_aload_n X 1 rfl dX11_meets_55 rfl ?_
        refine g_getf X 13 kf_358 cf_X11 (by decide) fl_X11_44 dX11_meets_56 rfl rfl ?_
        refine j_iload_n X 4 rfl dX11_meets_59 rfl ?_
        refine g_zald X 10 kf_370 (by decide) dX11_meets_60 (fun h58 => ?_)
        refine j_join (fun k49 => ∀ (x55 : Int32), J κ 8 rm_X11_meets (jQf κ rm_X11_meets rvI (fun S9 M9 => M9 = memG 358 387 (kD κ) (kB κ) S9 X9) z) (k49 x55) (memG 358 387 (kD κ) (kB κ) S4 X9) z 0 0 [(0, .ref (kB κ + 358)), (1, .int p1), (2, .int p2), (3, .int x5), (5, .int x7)] 82 [.int x55, .int x5, .ref (kB κ + 370)]) ?_ (fun k49 hk49 => ?_)
        · intro x55
          refine g_zast X 10 kf_370 (by decide) dX11_meets_82 (fun h57 S56 => ?_)
          refine j_iconst X (0 : Int32) dX11_meets_83 (by rfl) ?_
          refine j_istore X [(4, .int (0 : Int32)), (0, .ref (kB κ + 358)), (1, .int p1), (2, .int p2), (3, .int x5), (5, .int x7)] dX11_meets_84 (by decide) rfl ?_
          refine j_goto X 261 dX11_meets_86 (by decide) ?_
          refine j_lv [1, 2, 3, 4, 0, 5] rfl ?_
          exact hk17 S56 x5 (0 : Int32)
        · refine j_join (fun k50 => ∀ (_ : Unit), J κ 8 rm_X11_meets (jQf κ rm_X11_meets rvI (fun S9 M9 => M9 = memG 358 387 (kD κ) (kB κ) S9 X9) z) (k50 ()) (memG 358 387 (kD κ) (kB κ) S4 X9) z 0 0 [(0, .ref (kB κ + 358)), (1, .int p1), (2, .int p2), (3, .int x5), (5, .int x7)] 81 [.int x5, .ref (kB κ + 370)]) ?_ (fun k50 hk50 => ?_)
          · intro _
            refine j_iconst X (0 : Int32) dX11_meets_81 (by rfl) ?_
            exact hk49 (0 : Int32)
          · refine j_if_eq X 81 dX11_meets_61 (by decide) ?_ ?_
            · refine j_lv [1, 2, 3, 4, 6] rfl ?_
              exact hk50 ()
            · refine j_aload_n X 1 rfl dX11_meets_64 rfl ?_
              refine j_iload_n X 2 rfl dX11_meets_65 rfl ?_
              refine j_iload X 6 rfl dX11_meets_66 ?_
              refine j_iload_n X 3 rfl dX11_meets_68 rfl ?_
              refine j_call0V X 0 0 (c_X11_meetsTest X.tr S4 X9 z p1 x7 p2) me_X11_meetsTest ml_X11_134 iv_X11_meetsTest cf_X11 dX11_meets_69 (memG_at kf_358) (rest := [.int x5, .ref (kB κ + 370)]) rfl rfl (by decide) (by decide) (Nat.le_of_ble_eq_true rfl) (fun v51 u54 M53 hM52 => ?_)
              subst M53
              refine j_st (st1 := [.int v51, .int x5, .ref (kB κ + 370)]) rfl ?_
              refine j_iload X 5 rfl dX11_meets_72 ?_
              refine j_icmp_eq X 81 dX11_meets_74 (by decide) ?_ ?_
              · refine j_lv [1, 2, 3, 4, 6] rfl ?_
                exact hk50 ()
              · refine j_iconst X (1 : Int32) dX11_meets_77 (by rfl) ?_
                refine j_goto X 82 dX11_meets_78 (by decide) ?_
                refine j_lv [1, 2, 3, 4, 6] rfl ?_
                exact hk49 (1 : Int32)
def f_X11_gather (S : jS) : Option (jR jS) := loopK (fun (rec1 : jS → Int32 → Option (jR jS)) (S2 : jS) (x3 : Int32) => (if (6 : Int32) ≤ x3 then some (0, (0 : Int32), S2) else loopK (fun (rec4 : jS → Int32 → Option (jR jS)) (S5 : jS) (x6 : Int32) => (if (6 : Int32) ≤ x6 then letE (x3 + (1 : Int32)) fun x7 => rec1 S5 x7 else loopK (fun (rec8 : jS → Int32 → Int32 → Option (jR jS)) (S9 : jS) (x10 : Int32) (x11 : Int32) => (if (20 : Int32) ≤ x11 then chk (inb x6 6) (letE (jset S9 367 x6.toNatClampNeg x10) fun S12 => letE (x6 + (1 : Int32)) fun x13 => rec4 S12 x13) else jbin0 (f_X11_meets S9 x6 x11) (fun v15 S16 => joinK (fun (x18 : Int32) => letE (x10 ||| x18) fun x19 => letE (x11 + (1 : Int32)) fun x20 => rec8 S16 x19 x20) (fun k17 => (if v15 = (0 : Int32) then k17 (0 : Int32) else k17 (((1 : Int32) <<< (x11 &&& 31)))))))) (fun _ _ _ => none) 1000 S5 (0 : Int32) (0 : Int32))) (fun _ _ => none) 1000 S2 (0 : Int32))) (fun _ _ => none) 1000 S (0 : Int32)
abbrev rm_X11_gather : Room := { frames := 5, cells := 0, slots := 0, locals := 120 }
set_option maxHeartbeats 4000000 in
set_option maxRecDepth 100000 in
theorem c_X11_gather {l : Launch} {D : va_G} {B t0 : Nat} (hl9 : l.stackTraces = false) (S : jS) (X9 : jMem) (z : Nat → Prop) : jCf l D B t0 yX11_gather cX11_gather 5 none rm_X11_gather [.ref (B + 358)] (memG 358 387 D B S X9) z (f_X11_gather S) rvV (fun S9 M9 => M9 = memG 358 387 D B S9 X9) z := by
  refine jC_of hl9 (me_X11_gather).1 [(0, .ref (B + 358))] ⟨by decide +kernel, Nat.le_of_ble_eq_true rfl⟩ rfl (fun κ hl hD hB hT X htab hin => ?_)
  subst hl hD hB hT
  have X : jX κ RX11 cX11_gather 5 none := X
  unfold f_X11_gather
  refine j_iconst X (0 : Int32) dX11_gather_0 (by rfl) ?_
  refine j_istore_n X [(1, .int (0 : Int32)), (0, .ref (kB κ + 358))] dX11_gather_1 rfl (by decide) rfl ?_
  refine j_lv [1, 0] rfl ?_
  refine j_loop (fun (k : jS → Int32 → Option (jR jS)) => ∀ (S2 : jS) (x3 : Int32), J κ 5 rm_X11_gather (jQf κ rm_X11_gather rvV (fun S9 M9 => M9 = memG 358 387 (kD κ) (kB κ) S9 X9) z) (k S2 x3) (memG 358 387 (kD κ) (kB κ) S2 X9) z 0 0 [(0, .ref (kB κ + 358)), (1, .int x3)] 2 []) (fun _ _ => j_none) (fun rec1 hrec1 => ?_) 1000 _ _
  intro S2 x3
  refine j_iload_n X 1 rfl dX11_gather_2 rfl ?_
  refine j_bipush X (6 : Int32) dX11_gather_3 (by rfl) ?_
  refine j_icmp_ge X 74 dX11_gather_5 (by decide) ?_ ?_
  · exact j_vret X dX11_gather_74 rfl (fun _ h => h)
  · refine j_iconst X (0 : Int32) dX11_gather_8 (by rfl) ?_
    refine j_istore_n X [(2, .int (0 : Int32)), (0, .ref (kB κ + 358)), (1, .int x3)] dX11_gather_9 rfl (by decide) rfl ?_
    refine j_lv [1, 2, 0] rfl ?_
    refine j_loop (fun (k : jS → Int32 → Option (jR jS)) => ∀ (S5 : jS) (x6 : Int32), J κ 5 rm_X11_gather (jQf κ rm_X11_gather rvV (fun S9 M9 => M9 = memG 358 387 (kD κ) (kB κ) S9 X9) z) (k S5 x6) (memG 358 387 (kD κ) (kB κ) S5 X9) z 0 0 [(0, .ref (kB κ + 358)), (1, .int x3), (2, .int x6)] 10 []) (fun _ _ => j_none) (fun rec4 hrec4 => ?_) 1000 _ _
    intro S5 x6
    refine j_iload_n X 2 rfl dX11_gather_10 rfl ?_
    refine j_bipush X (6 : Int32) dX11_gather_11 (by rfl) ?_
    refine j_icmp_ge X 68 dX11_gather_13 (by decide) ?_ ?_
    · refine j_iincL X 1 (fun x7 => [(1, .int x7), (0, .ref (kB κ + 358)), (2, .int x6)]) dX11_gather_68 rfl (by rfl) (by decide) (fun _ => rfl) (fun x7 => ?_)
      refine j_goto X 2 dX11_gather_71 (by decide) ?_
      refine j_lv [1, 0] rfl ?_
      exact hrec1 S5 x7
    · refine j_iconst X (0 : Int32) dX11_gather_16 (by rfl) ?_
      refine j_istore_n X [(3, .int (0 : Int32)), (0, .ref (kB κ + 358)), (1, .int x3), (2, .int x6)] dX11_gather_17 rfl (by decide) rfl ?_
      refine j_iconst X (0 : Int32) dX11_gather_18 (by rfl) ?_
      refine j_istore X [(4, .int (0 : Int32)), (3, .int (0 : Int32)), (0, .ref (kB κ + 358)), (1, .int x3), (2, .int x6)] dX11_gather_19 (by decide) rfl ?_
      refine j_lv [2, 3, 4, 1, 0] rfl ?_
      refine j_loop (fun (k : jS → Int32 → Int32 → Option (jR jS)) => ∀ (S9 : jS) (x10 : Int32) (x11 : Int32), J κ 5 rm_X11_gather (jQf κ rm_X11_gather rvV (fun S9 M9 => M9 = memG 358 387 (kD κ) (kB κ) S9 X9) z) (k S9 x10 x11) (memG 358 387 (kD κ) (kB κ) S9 X9) z 0 0 [(0, .ref (kB κ + 358)), (1, .int x3), (2, .int x6), (3, .int x10), (4, .int x11)] 21 []) (fun _ _ _ => j_none) (fun rec8 hrec8 => ?_) 1000 _ _ _
      intro S9 x10 x11
      refine j_iload X 4 rfl dX11_gather_21 ?_
      refine j_bipush X (20 : Int32) dX11_gather_23 (by rfl) ?_
      refine j_icmp_ge X 55 dX11_gather_25 (by decide) ?_ ?_
      · refine j_aload_n X 0 rfl dX11_gather_55 rfl ?_
        refine g_getf X 10 kf_358 cf_X11 (by decide) fl_X11_34 dX11_gather_56 rfl rfl ?_
        refine j_iload_n X 2 rfl dX11_gather_59 rfl ?_
        refine j_iload_n X 3 rfl dX11_gather_60 rfl ?_
        refine g_iast X 6 kf_367 (by decide) dX11_gather_61 (fun h14 S12 => ?_)
        refine j_iincL X 2 (fun x13 => [(2, .int x13), (0, .ref (kB κ + 358)), (1, .int x3), (3, .int x10), (4, .int x11)]) dX11_gather_62 rfl (by rfl) (by decide) (fun _ => rfl) (fun x13 => ?_)
        refine j_goto X 10 dX11_gather_65 (by decide) ?_
        refine j_lv [1, 2, 0] rfl ?_
        exact hrec4 S12 x13
      · refine j_iload_n X 3 rfl dX11_gather_28 rfl ?_
        refine j_aload_n X 0 rfl dX11_gather_29 rfl ?_
        refine j_iload_n X 2 rfl dX11_gather_30 rfl ?_
        refine j_iload X 4 rfl dX11_gather_31 ?_
        refine j_call0V X 0 0 (c_X11_meets X.tr S9 X9 z x6 x11) me_X11_meets ml_X11_137 iv_X11_meets cf_X11 dX11_gather_33 (memG_at kf_358) (rest := [.int x10]) rfl rfl (by decide) (by decide) (Nat.le_of_ble_eq_true rfl) (fun v15 S16 M22 hM21 => ?_)
        subst M22
        refine j_st (st1 := [.int v15, .int x10]) rfl ?_
        refine j_join (fun k17 => ∀ (x18 : Int32), J κ 5 rm_X11_gather (jQf κ rm_X11_gather rvV (fun S9 M9 => M9 = memG 358 387 (kD κ) (kB κ) S9 X9) z) (k17 x18) (memG 358 387 (kD κ) (kB κ) S16 X9) z 0 0 [(0, .ref (kB κ + 358)), (1, .int x3), (2, .int x6), (4, .int x11)] 47 [.int x18, .int x10]) ?_ (fun k17 hk17 => ?_)
        · intro x18
          refine j_ior X dX11_gather_47 ?_
          refine j_letE (fun x19 => ?_)
          refine j_istore_n X [(3, .int x19), (0, .ref (kB κ + 358)), (1, .int x3), (2, .int x6), (4, .int x11)] dX11_gather_48 rfl (by decide) rfl ?_
          refine j_iincL X 4 (fun x20 => [(4, .int x20), (3, .int x19), (0, .ref (kB κ + 358)), (1, .int x3), (2, .int x6)]) dX11_gather_49 rfl (by rfl) (by decide) (fun _ => rfl) (fun x20 => ?_)
          refine j_goto X 21 dX11_gather_52 (by decide) ?_
          refine j_lv [2, 3, 4, 1, 0] rfl ?_
          exact hrec8 S16 x19 x20
        · refine j_if_eq X 46 dX11_gather_36 (by decide) ?_ ?_
          · refine j_iconst X (0 : Int32) dX11_gather_46 (by rfl) ?_
            refine j_lv [0, 1, 2, 4] rfl ?_
            exact hk17 (0 : Int32)
          · refine j_iconst X (1 : Int32) dX11_gather_39 (by rfl) ?_
            refine j_iload X 4 rfl dX11_gather_40 ?_
            refine j_ishl X dX11_gather_42 ?_
            refine j_goto X 47 dX11_gather_43 (by decide) ?_
            refine j_lv [0, 1, 2, 4] rfl ?_
            exact hk17 (((1 : Int32) <<< (x11 &&& 31)))
def f_X11_countBits (p0 : Int32) : Option (jR Unit) := loopK (fun (rec1 : Int32 → Int32 → Option (jR Unit)) (x2 : Int32) (x3 : Int32) => (if (20 : Int32) ≤ x3 then some (0, x2, ()) else letE ((x2 + ((p0 >>> (x3 &&& 31)) &&& (1 : Int32)))) fun x4 => letE (x3 + (1 : Int32)) fun x5 => rec1 x4 x5)) (fun _ _ => none) 1000 (0 : Int32) (0 : Int32)
abbrev rm_X11_countBits : Room := { frames := 0, cells := 0, slots := 0, locals := 0 }
set_option maxHeartbeats 4000000 in
set_option maxRecDepth 100000 in
theorem c_X11_countBits {l : Launch} {D : va_G} {B t0 : Nat} (hl9 : l.stackTraces = false) (M : jMem) (z : Nat → Prop) (p0 : Int32) : jCf l D B t0 yX11_countBits cX11_countBits 3 (some .int) rm_X11_countBits [.int p0] M z (f_X11_countBits p0) rvI (fun (S9 : Unit) M9 => M9 = M) z := by
  refine jC_of hl9 (me_X11_countBits).1 [(0, .int p0)] ⟨by decide +kernel, Nat.le_of_ble_eq_true rfl⟩ rfl (fun κ hl hD hB hT X htab hin => ?_)
  subst hl hD hB hT
  have X : jX κ RX11 cX11_countBits 3 (some .int) := X
  unfold f_X11_countBits
  refine j_iconst X (0 : Int32) dX11_countBits_0 (by rfl) ?_
  refine j_istore_n X [(1, .int (0 : Int32)), (0, .int p0)] dX11_countBits_1 rfl (by decide) rfl ?_
  refine j_iconst X (0 : Int32) dX11_countBits_2 (by rfl) ?_
  refine j_istore_n X [(2, .int (0 : Int32)), (1, .int (0 : Int32)), (0, .int p0)] dX11_countBits_3 rfl (by decide) rfl ?_
  refine j_lv [2, 1, 0] rfl ?_
  refine j_loop (fun (k : Int32 → Int32 → Option (jR Unit)) => ∀ (x2 : Int32) (x3 : Int32), J κ 3 rm_X11_countBits (jQf κ rm_X11_countBits rvI (fun (S9 : Unit) M9 => M9 = M) z) (k x2 x3) M z 0 0 [(0, .int p0), (1, .int x2), (2, .int x3)] 4 []) (fun _ _ => j_none) (fun rec1 hrec1 => ?_) 1000 _ _
  intro x2 x3
  refine j_iload_n X 2 rfl dX11_countBits_4 rfl ?_
  refine j_bipush X (20 : Int32) dX11_countBits_5 (by rfl) ?_
  refine j_icmp_ge X 24 dX11_countBits_7 (by decide) ?_ ?_
  · refine j_iload_n X 1 rfl dX11_countBits_24 rfl ?_
    exact j_iret X dX11_countBits_25 rfl (fun _ h => h)
  · refine j_iload_n X 1 rfl dX11_countBits_10 rfl ?_
    refine j_iload_n X 0 rfl dX11_countBits_11 rfl ?_
    refine j_iload_n X 2 rfl dX11_countBits_12 rfl ?_
    refine j_ishr X dX11_countBits_13 ?_
    refine j_iconst X (1 : Int32) dX11_countBits_14 (by rfl) ?_
    refine j_iand X dX11_countBits_15 ?_
    refine j_iadd X dX11_countBits_16 ?_
    refine j_letE (fun x4 => ?_)
    refine j_istore_n X [(1, .int x4), (0, .int p0), (2, .int x3)] dX11_countBits_17 rfl (by decide) rfl ?_
    refine j_iincL X 2 (fun x5 => [(2, .int x5), (1, .int x4), (0, .int p0)]) dX11_countBits_18 rfl (by rfl) (by decide) (fun _ => rfl) (fun x5 => ?_)
    refine j_goto X 4 dX11_countBits_21 (by decide) ?_
    refine j_lv [2, 1, 0] rfl ?_
    exact hrec1 x4 x5
def f_X11_layDraft (S : jS) (p1 : Int32) : Option (jR jS) := chk (inb p1 6) (letE (jset S 358 8 (S 364 p1.toNatClampNeg)) fun S1 => loopK (fun (rec2 : jS → Int32 → Option (jR jS)) (S3 : jS) (x4 : Int32) => (if (60 : Int32) ≤ x4 then chk (inb p1 6) (chk (inb p1 6) (letE (jset S3 364 p1.toNatClampNeg (S3 362 p1.toNatClampNeg)) fun S5 => some (0, (0 : Int32), S5))) else chk (inb ((((60 : Int32) * p1) + x4)) 360) (chk (inb x4 60) (letE (jset S3 365 x4.toNatClampNeg ((S3 363 ((((60 : Int32) * p1) + x4)).toNatClampNeg))) fun S8 => chk (inb ((((60 : Int32) * p1) + x4)) 360) (chk (inb ((((60 : Int32) * p1) + x4)) 360) (letE (jset S8 363 ((((60 : Int32) * p1) + x4)).toNatClampNeg ((S8 361 ((((60 : Int32) * p1) + x4)).toNatClampNeg))) fun S9 => letE (x4 + (1 : Int32)) fun x10 => rec2 S9 x10)))))) (fun _ _ => none) 1000 S1 (0 : Int32))
abbrev rm_X11_layDraft : Room := { frames := 0, cells := 0, slots := 0, locals := 0 }
set_option maxHeartbeats 4000000 in
set_option maxRecDepth 100000 in
theorem c_X11_layDraft {l : Launch} {D : va_G} {B t0 : Nat} (hl9 : l.stackTraces = false) (S : jS) (X9 : jMem) (z : Nat → Prop) (p1 : Int32) : jCf l D B t0 yX11_layDraft cX11_layDraft 3 none rm_X11_layDraft [.ref (B + 358), .int p1] (memG 358 387 D B S X9) z (f_X11_layDraft S p1) rvV (fun S9 M9 => M9 = memG 358 387 D B S9 X9) z := by
  refine jC_of hl9 (me_X11_layDraft).1 [(0, .ref (B + 358)), (1, .int p1)] ⟨by decide +kernel, Nat.le_of_ble_eq_true rfl⟩ rfl (fun κ hl hD hB hT X htab hin => ?_)
  subst hl hD hB hT
  have X : jX κ RX11 cX11_layDraft 3 none := X
  unfold f_X11_layDraft
  refine j_aload_n X 0 rfl dX11_layDraft_0 rfl ?_
  refine j_aload_n X 0 rfl dX11_layDraft_1 rfl ?_
  refine g_getf X 6 kf_358 cf_X11 (by decide) fl_X11_25 dX11_layDraft_2 rfl rfl ?_
  refine j_iload_n X 1 rfl dX11_layDraft_5 rfl ?_
  refine g_iald X 6 kf_364 (by decide) dX11_layDraft_6 (fun h15 => ?_)
  refine g_putf X 8 kf_358 cf_X11 (by decide) fl_X11_141 dX11_layDraft_7 rfl rfl rfl rfl (Nat.le_of_ble_eq_true rfl) rfl (fun S1 => ?_)
  refine j_iconst X (0 : Int32) dX11_layDraft_10 (by rfl) ?_
  refine j_istore_n X [(2, .int (0 : Int32)), (0, .ref (kB κ + 358)), (1, .int p1)] dX11_layDraft_11 rfl (by decide) rfl ?_
  refine j_lv [1, 2, 0] rfl ?_
  refine j_loop (fun (k : jS → Int32 → Option (jR jS)) => ∀ (S3 : jS) (x4 : Int32), J κ 3 rm_X11_layDraft (jQf κ rm_X11_layDraft rvV (fun S9 M9 => M9 = memG 358 387 (kD κ) (kB κ) S9 X9) z) (k S3 x4) (memG 358 387 (kD κ) (kB κ) S3 X9) z 0 0 [(0, .ref (kB κ + 358)), (1, .int p1), (2, .int x4)] 12 []) (fun _ _ => j_none) (fun rec2 hrec2 => ?_) 1000 _ _
  intro S3 x4
  refine j_iload_n X 2 rfl dX11_layDraft_12 rfl ?_
  refine j_bipush X (60 : Int32) dX11_layDraft_13 (by rfl) ?_
  refine j_icmp_ge X 63 dX11_layDraft_15 (by decide) ?_ ?_
  · refine j_aload_n X 0 rfl dX11_layDraft_63 rfl ?_
    refine g_getf X 6 kf_358 cf_X11 (by decide) fl_X11_25 dX11_layDraft_64 rfl rfl ?_
    refine j_iload_n X 1 rfl dX11_layDraft_67 rfl ?_
    refine j_aload_n X 0 rfl dX11_layDraft_68 rfl ?_
    refine g_getf X 4 kf_358 cf_X11 (by decide) fl_X11_19 dX11_layDraft_69 rfl rfl ?_
    refine j_iload_n X 1 rfl dX11_layDraft_72 rfl ?_
    refine g_iald X 6 kf_362 (by decide) dX11_layDraft_73 (fun h7 => ?_)
    refine g_iast X 6 kf_364 (by decide) dX11_layDraft_74 (fun h6 S5 => ?_)
    exact j_vret X dX11_layDraft_75 rfl (fun _ h => h)
  · refine j_aload_n X 0 rfl dX11_layDraft_18 rfl ?_
    refine g_getf X 7 kf_358 cf_X11 (by decide) fl_X11_28 dX11_layDraft_19 rfl rfl ?_
    refine j_iload_n X 2 rfl dX11_layDraft_22 rfl ?_
    refine j_aload_n X 0 rfl dX11_layDraft_23 rfl ?_
    refine g_getf X 5 kf_358 cf_X11 (by decide) fl_X11_22 dX11_layDraft_24 rfl rfl ?_
    refine j_bipush X (60 : Int32) dX11_layDraft_27 (by rfl) ?_
    refine j_iload_n X 1 rfl dX11_layDraft_29 rfl ?_
    refine j_imul X dX11_layDraft_30 ?_
    refine j_iload_n X 2 rfl dX11_layDraft_31 rfl ?_
    refine j_iadd X dX11_layDraft_32 ?_
    refine g_iald X 360 kf_363 (by decide) dX11_layDraft_33 (fun h14 => ?_)
    refine g_iast X 60 kf_365 (by decide) dX11_layDraft_34 (fun h13 S8 => ?_)
    refine j_aload_n X 0 rfl dX11_layDraft_35 rfl ?_
    refine g_getf X 5 kf_358 cf_X11 (by decide) fl_X11_22 dX11_layDraft_36 rfl rfl ?_
    refine j_bipush X (60 : Int32) dX11_layDraft_39 (by rfl) ?_
    refine j_iload_n X 1 rfl dX11_layDraft_41 rfl ?_
    refine j_imul X dX11_layDraft_42 ?_
    refine j_iload_n X 2 rfl dX11_layDraft_43 rfl ?_
    refine j_iadd X dX11_layDraft_44 ?_
    refine j_aload_n X 0 rfl dX11_layDraft_45 rfl ?_
    refine g_getf X 3 kf_358 cf_X11 (by decide) fl_X11_16 dX11_layDraft_46 rfl rfl ?_
    refine j_bipush X (60 : Int32) dX11_layDraft_49 (by rfl) ?_
    refine j_iload_n X 1 rfl dX11_layDraft_51 rfl ?_
    refine j_imul X dX11_layDraft_52 ?_
    refine j_iload_n X 2 rfl dX11_layDraft_53 rfl ?_
    refine j_iadd X dX11_layDraft_54 ?_
    refine g_iald X 360 kf_361 (by decide) dX11_layDraft_55 (fun h12 => ?_)
    refine g_iast X 360 kf_363 (by decide) dX11_layDraft_56 (fun h11 S9 => ?_)
    refine j_iincL X 2 (fun x10 => [(2, .int x10), (0, .ref (kB κ + 358)), (1, .int p1)]) dX11_layDraft_57 rfl (by rfl) (by decide) (fun _ => rfl) (fun x10 => ?_)
    refine j_goto X 12 dX11_layDraft_60 (by decide) ?_
    refine j_lv [1, 2, 0] rfl ?_
    exact hrec2 S9 x10
def f_X11_layBack (S : jS) (p1 : Int32) : Option (jR jS) := loopK (fun (rec1 : jS → Int32 → Option (jR jS)) (S2 : jS) (x3 : Int32) => (if (60 : Int32) ≤ x3 then chk (inb p1 6) (letE (jset S2 364 p1.toNatClampNeg (S2 358 8)) fun S4 => some (0, (0 : Int32), S4)) else chk (inb x3 60) (chk (inb ((((60 : Int32) * p1) + x3)) 360) (letE (jset S2 363 ((((60 : Int32) * p1) + x3)).toNatClampNeg (S2 365 x3.toNatClampNeg)) fun S6 => letE (x3 + (1 : Int32)) fun x7 => rec1 S6 x7)))) (fun _ _ => none) 1000 S (0 : Int32)
abbrev rm_X11_layBack : Room := { frames := 0, cells := 0, slots := 0, locals := 0 }
set_option maxHeartbeats 4000000 in
set_option maxRecDepth 100000 in
theorem c_X11_layBack {l : Launch} {D : va_G} {B t0 : Nat} (hl9 : l.stackTraces = false) (S : jS) (X9 : jMem) (z : Nat → Prop) (p1 : Int32) : jCf l D B t0 yX11_layBack cX11_layBack 3 none rm_X11_layBack [.ref (B + 358), .int p1] (memG 358 387 D B S X9) z (f_X11_layBack S p1) rvV (fun S9 M9 => M9 = memG 358 387 D B S9 X9) z := by
  refine jC_of hl9 (me_X11_layBack).1 [(0, .ref (B + 358)), (1, .int p1)] ⟨by decide +kernel, Nat.le_of_ble_eq_true rfl⟩ rfl (fun κ hl hD hB hT X htab hin => ?_)
  subst hl hD hB hT
  have X : jX κ RX11 cX11_layBack 3 none := X
  unfold f_X11_layBack
  refine j_iconst X (0 : Int32) dX11_layBack_0 (by rfl) ?_
  refine j_istore_n X [(2, .int (0 : Int32)), (0, .ref (kB κ + 358)), (1, .int p1)] dX11_layBack_1 rfl (by decide) rfl ?_
  refine j_lv [1, 2, 0] rfl ?_
  refine j_loop (fun (k : jS → Int32 → Option (jR jS)) => ∀ (S2 : jS) (x3 : Int32), J κ 3 rm_X11_layBack (jQf κ rm_X11_layBack rvV (fun S9 M9 => M9 = memG 358 387 (kD κ) (kB κ) S9 X9) z) (k S2 x3) (memG 358 387 (kD κ) (kB κ) S2 X9) z 0 0 [(0, .ref (kB κ + 358)), (1, .int p1), (2, .int x3)] 2 []) (fun _ _ => j_none) (fun rec1 hrec1 => ?_) 1000 _ _
  intro S2 x3
  refine j_iload_n X 2 rfl dX11_layBack_2 rfl ?_
  refine j_bipush X (60 : Int32) dX11_layBack_3 (by rfl) ?_
  refine j_icmp_ge X 31 dX11_layBack_5 (by decide) ?_ ?_
  · refine j_aload_n X 0 rfl dX11_layBack_31 rfl ?_
    refine g_getf X 6 kf_358 cf_X11 (by decide) fl_X11_25 dX11_layBack_32 rfl rfl ?_
    refine j_iload_n X 1 rfl dX11_layBack_35 rfl ?_
    refine j_aload_n X 0 rfl dX11_layBack_36 rfl ?_
    refine g_getf X 8 kf_358 cf_X11 (by decide) fl_X11_141 dX11_layBack_37 rfl rfl ?_
    refine g_iast X 6 kf_364 (by decide) dX11_layBack_40 (fun h5 S4 => ?_)
    exact j_vret X dX11_layBack_41 rfl (fun _ h => h)
  · refine j_aload_n X 0 rfl dX11_layBack_8 rfl ?_
    refine g_getf X 5 kf_358 cf_X11 (by decide) fl_X11_22 dX11_layBack_9 rfl rfl ?_
    refine j_bipush X (60 : Int32) dX11_layBack_12 (by rfl) ?_
    refine j_iload_n X 1 rfl dX11_layBack_14 rfl ?_
    refine j_imul X dX11_layBack_15 ?_
    refine j_iload_n X 2 rfl dX11_layBack_16 rfl ?_
    refine j_iadd X dX11_layBack_17 ?_
    refine j_aload_n X 0 rfl dX11_layBack_18 rfl ?_
    refine g_getf X 7 kf_358 cf_X11 (by decide) fl_X11_28 dX11_layBack_19 rfl rfl ?_
    refine j_iload_n X 2 rfl dX11_layBack_22 rfl ?_
    refine g_iald X 60 kf_365 (by decide) dX11_layBack_23 (fun h9 => ?_)
    refine g_iast X 360 kf_363 (by decide) dX11_layBack_24 (fun h8 S6 => ?_)
    refine j_iincL X 2 (fun x7 => [(2, .int x7), (0, .ref (kB κ + 358)), (1, .int p1)]) dX11_layBack_25 rfl (by rfl) (by decide) (fun _ => rfl) (fun x7 => ?_)
    refine j_goto X 2 dX11_layBack_28 (by decide) ?_
    refine j_lv [1, 2, 0] rfl ?_
    exact hrec1 S6 x7
def f_X11_hasCircle (S : jS) : Option (jR jS) := loopK (fun (rec1 : jS → Int32 → Option (jR jS)) (S2 : jS) (x3 : Int32) => (if (6 : Int32) ≤ x3 then loopK (fun (rec4 : jS → Int32 → Option (jR jS)) (S5 : jS) (x6 : Int32) => (if (6 : Int32) ≤ x6 then loopK (fun (rec7 : Int32 → Int32 → Option (jR jS)) (x8 : Int32) (x9 : Int32) => (if (6 : Int32) ≤ x9 then chk (isb x8) (some (0, x8, S5)) else joinK (fun (x13 : Int32) => letE (x9 + (1 : Int32)) fun x14 => rec7 x13 x14) (fun k10 => joinK (fun (_ : Unit) => k10 (1 : Int32)) (fun k11 => (if x8 = (0 : Int32) then chk (inb x9 6) ((if (((S5 366 x9.toNatClampNeg) >>> (x9 &&& 31)) &&& (1 : Int32)) = (1 : Int32) then k11 () else k10 (0 : Int32))) else k11 ()))))) (fun _ _ => none) 1000 (0 : Int32) (0 : Int32) else loopK (fun (rec15 : jS → Int32 → Option (jR jS)) (S16 : jS) (x17 : Int32) => (if (6 : Int32) ≤ x17 then letE (x6 + (1 : Int32)) fun x18 => rec4 S16 x18 else chk (inb x17 6) (chk (inb x17 6) (joinK (fun (x21 : Int32) => chk (inb x17 6) (letE (jset S16 366 x17.toNatClampNeg (((S16 366 x17.toNatClampNeg) ||| x21))) fun S22 => letE (x17 + (1 : Int32)) fun x23 => rec15 S22 x23)) (fun k19 => (if (((S16 366 x17.toNatClampNeg) >>> (x6 &&& 31)) &&& (1 : Int32)) = (1 : Int32) then chk (inb x6 6) (k19 (S16 366 x6.toNatClampNeg)) else k19 (0 : Int32))))))) (fun _ _ => none) 1000 S5 (0 : Int32))) (fun _ _ => none) 1000 S2 (0 : Int32) else chk (inb x3 6) (letE (jset S2 366 x3.toNatClampNeg (0 : Int32)) fun S27 => loopK (fun (rec28 : jS → Int32 → Option (jR jS)) (S29 : jS) (x30 : Int32) => chk (inb x3 6) ((if (S29 364 x3.toNatClampNeg) ≤ x30 then letE (x3 + (1 : Int32)) fun x31 => rec1 S29 x31 else jbin0 (f_X11_signOf S29 x3 x30) (fun v32 _ => joinK (fun (x34 : Int32) => chk (inb x3 6) (joinK (fun (x40 : Int32) => chk (inb x3 6) (letE (jset S29 366 x3.toNatClampNeg (((S29 366 x3.toNatClampNeg) ||| x40))) fun S41 => letE (x30 + (1 : Int32)) fun x42 => rec28 S41 x42)) (fun k35 => (if x34 = (0 : Int32) then k35 (0 : Int32) else jbin0 (f_X11_signOf S29 x3 ((x30 + (1 : Int32)))) (fun v36 _ => k35 (((1 : Int32) <<< ((v36 - (48 : Int32)) &&& 31)))))))) (fun k33 => (if v32 = (64 : Int32) then k33 (1 : Int32) else k33 (0 : Int32))))))) (fun _ _ => none) 1000 S27 (0 : Int32)))) (fun _ _ => none) 1000 S (0 : Int32)
abbrev rm_X11_hasCircle : Room := { frames := 1, cells := 0, slots := 0, locals := 22 }
set_option maxHeartbeats 4000000 in
set_option maxRecDepth 100000 in
theorem c_X11_hasCircle {l : Launch} {D : va_G} {B t0 : Nat} (hl9 : l.stackTraces = false) (S : jS) (X9 : jMem) (z : Nat → Prop) : jCf l D B t0 yX11_hasCircle cX11_hasCircle 4 (some .boolean) rm_X11_hasCircle [.ref (B + 358)] (memG 358 387 D B S X9) z (f_X11_hasCircle S) rvI (fun S9 M9 => M9 = memG 358 387 D B S9 X9) z := by
  refine jC_of hl9 (me_X11_hasCircle).1 [(0, .ref (B + 358))] ⟨by decide +kernel, Nat.le_of_ble_eq_true rfl⟩ rfl (fun κ hl hD hB hT X htab hin => ?_)
  subst hl hD hB hT
  have X : jX κ RX11 cX11_hasCircle 4 (some .boolean) := X
  unfold f_X11_hasCircle
  refine j_iconst X (0 : Int32) dX11_hasCircle_0 (by rfl) ?_
  refine j_istore_n X [(1, .int (0 : Int32)), (0, .ref (kB κ + 358))] dX11_hasCircle_1 rfl (by decide) rfl ?_
  refine j_lv [1, 0] rfl ?_
  refine j_loop (fun (k : jS → Int32 → Option (jR jS)) => ∀ (S2 : jS) (x3 : Int32), J κ 4 rm_X11_hasCircle (jQf κ rm_X11_hasCircle rvI (fun S9 M9 => M9 = memG 358 387 (kD κ) (kB κ) S9 X9) z) (k S2 x3) (memG 358 387 (kD κ) (kB κ) S2 X9) z 0 0 [(0, .ref (kB κ + 358)), (1, .int x3)] 2 []) (fun _ _ => j_none) (fun rec1 hrec1 => ?_) 1000 _ _
  intro S2 x3
  refine j_iload_n X 1 rfl dX11_hasCircle_2 rfl ?_
  refine j_bipush X (6 : Int32) dX11_hasCircle_3 (by rfl) ?_
  refine j_icmp_ge X 86 dX11_hasCircle_5 (by decide) ?_ ?_
  · refine j_iconst X (0 : Int32) dX11_hasCircle_86 (by rfl) ?_
    refine j_istore_n X [(1, .int (0 : Int32)), (0, .ref (kB κ + 358))] dX11_hasCircle_87 rfl (by decide) rfl ?_
    refine j_iconst X (0 : Int32) dX11_hasCircle_88 (by rfl) ?_
    refine j_istore_n X [(2, .int (0 : Int32)), (1, .int (0 : Int32)), (0, .ref (kB κ + 358))] dX11_hasCircle_89 rfl (by decide) rfl ?_
    refine j_lv [2, 1, 0] rfl ?_
    refine j_loop (fun (k : jS → Int32 → Option (jR jS)) => ∀ (S5 : jS) (x6 : Int32), J κ 4 rm_X11_hasCircle (jQf κ rm_X11_hasCircle rvI (fun S9 M9 => M9 = memG 358 387 (kD κ) (kB κ) S9 X9) z) (k S5 x6) (memG 358 387 (kD κ) (kB κ) S5 X9) z 0 0 [(0, .ref (kB κ + 358)), (1, .int (0 : Int32)), (2, .int x6)] 90 []) (fun _ _ => j_none) (fun rec4 hrec4 => ?_) 1000 _ _
    intro S5 x6
    refine j_iload_n X 2 rfl dX11_hasCircle_90 rfl ?_
    refine j_bipush X (6 : Int32) dX11_hasCircle_91 (by rfl) ?_
    refine j_icmp_ge X 149 dX11_hasCircle_93 (by decide) ?_ ?_
    · refine j_iconst X (0 : Int32) dX11_hasCircle_149 (by rfl) ?_
      refine j_istore_n X [(2, .int (0 : Int32)), (0, .ref (kB κ + 358)), (1, .int (0 : Int32))] dX11_hasCircle_150 rfl (by decide) rfl ?_
      refine j_lv [1, 2, 0] rfl ?_
      refine j_loop (fun (k : Int32 → Int32 → Option (jR jS)) => ∀ (x8 : Int32) (x9 : Int32), J κ 4 rm_X11_hasCircle (jQf κ rm_X11_hasCircle rvI (fun S9 M9 => M9 = memG 358 387 (kD κ) (kB κ) S9 X9) z) (k x8 x9) (memG 358 387 (kD κ) (kB κ) S5 X9) z 0 0 [(0, .ref (kB κ + 358)), (1, .int x8), (2, .int x9)] 151 []) (fun _ _ => j_none) (fun rec7 hrec7 => ?_) 1000 _ _
      intro x8 x9
      refine j_iload_n X 2 rfl dX11_hasCircle_151 rfl ?_
      refine j_bipush X (6 : Int32) dX11_hasCircle_152 (by rfl) ?_
      refine j_icmp_ge X 187 dX11_hasCircle_154 (by decide) ?_ ?_
      · refine j_iload_n X 1 rfl dX11_hasCircle_187 rfl ?_
        exact j_zret X dX11_hasCircle_188 rfl (fun _ h => h)
      · refine j_iload_n X 1 rfl dX11_hasCircle_157 rfl ?_
        refine j_join (fun k10 => ∀ (x13 : Int32), J κ 4 rm_X11_hasCircle (jQf κ rm_X11_hasCircle rvI (fun S9 M9 => M9 = memG 358 387 (kD κ) (kB κ) S9 X9) z) (k10 x13) (memG 358 387 (kD κ) (kB κ) S5 X9) z 0 0 [(0, .ref (kB κ + 358)), (2, .int x9)] 180 [.int x13]) ?_ (fun k10 hk10 => ?_)
        · intro x13
          refine j_istore_n X [(1, .int x13), (0, .ref (kB κ + 358)), (2, .int x9)] dX11_hasCircle_180 rfl (by decide) rfl ?_
          refine j_iincL X 2 (fun x14 => [(2, .int x14), (1, .int x13), (0, .ref (kB κ + 358))]) dX11_hasCircle_181 rfl (by rfl) (by decide) (fun _ => rfl) (fun x14 => ?_)
          refine j_goto X 151 dX11_hasCircle_184 (by decide) ?_
          refine j_lv [2, 1, 0] rfl ?_
          exact hrec7 x13 x14
        · refine j_join (fun k11 => ∀ (_ : Unit), J κ 4 rm_X11_hasCircle (jQf κ rm_X11_hasCircle rvI (fun S9 M9 => M9 = memG 358 387 (kD κ) (kB κ) S9 X9) z) (k11 ()) (memG 358 387 (kD κ) (kB κ) S5 X9) z 0 0 [(0, .ref (kB κ + 358)), (2, .int x9)] 175 []) ?_ (fun k11 hk11 => ?_)
          · intro _
            refine j_iconst X (1 : Int32) dX11_hasCircle_175 (by rfl) ?_
            refine j_goto X 180 dX11_hasCircle_176 (by decide) ?_
            exact hk10 (1 : Int32)
          · refine j_if_ne X 175 dX11_hasCircle_158 (by decide) ?_ ?_
            · refine j_aload_n X 0 rfl dX11_hasCircle_161 rfl ?_
              refine g_getf X 9 kf_358 cf_X11 (by decide) fl_X11_31 dX11_hasCircle_162 rfl rfl ?_
              refine j_iload_n X 2 rfl dX11_hasCircle_165 rfl ?_
              refine g_iald X 6 kf_366 (by decide) dX11_hasCircle_166 (fun h12 => ?_)
              refine j_iload_n X 2 rfl dX11_hasCircle_167 rfl ?_
              refine j_ishr X dX11_hasCircle_168 ?_
              refine j_iconst X (1 : Int32) dX11_hasCircle_169 (by rfl) ?_
              refine j_iand X dX11_hasCircle_170 ?_
              refine j_iconst X (1 : Int32) dX11_hasCircle_171 (by rfl) ?_
              refine j_icmp_ne X 179 dX11_hasCircle_172 (by decide) ?_ ?_
              · refine j_lv [0, 2] rfl ?_
                exact hk11 ()
              · refine j_iconst X (0 : Int32) dX11_hasCircle_179 (by rfl) ?_
                refine j_lv [0, 2] rfl ?_
                exact hk10 (0 : Int32)
            · refine j_lv [0, 2] rfl ?_
              exact hk11 ()
    · refine j_iconst X (0 : Int32) dX11_hasCircle_96 (by rfl) ?_
      refine j_istore_n X [(3, .int (0 : Int32)), (0, .ref (kB κ + 358)), (1, .int (0 : Int32)), (2, .int x6)] dX11_hasCircle_97 rfl (by decide) rfl ?_
      refine j_lv [1, 2, 3, 0] rfl ?_
      refine j_loop (fun (k : jS → Int32 → Option (jR jS)) => ∀ (S16 : jS) (x17 : Int32), J κ 4 rm_X11_hasCircle (jQf κ rm_X11_hasCircle rvI (fun S9 M9 => M9 = memG 358 387 (kD κ) (kB κ) S9 X9) z) (k S16 x17) (memG 358 387 (kD κ) (kB κ) S16 X9) z 0 0 [(0, .ref (kB κ + 358)), (1, .int (0 : Int32)), (2, .int x6), (3, .int x17)] 98 []) (fun _ _ => j_none) (fun rec15 hrec15 => ?_) 1000 _ _
      intro S16 x17
      refine j_iload_n X 3 rfl dX11_hasCircle_98 rfl ?_
      refine j_bipush X (6 : Int32) dX11_hasCircle_99 (by rfl) ?_
      refine j_icmp_ge X 143 dX11_hasCircle_101 (by decide) ?_ ?_
      · refine j_iincL X 2 (fun x18 => [(2, .int x18), (0, .ref (kB κ + 358)), (1, .int (0 : Int32)), (3, .int x17)]) dX11_hasCircle_143 rfl (by rfl) (by decide) (fun _ => rfl) (fun x18 => ?_)
        refine j_goto X 90 dX11_hasCircle_146 (by decide) ?_
        refine j_lv [1, 2, 0] rfl ?_
        exact hrec4 S16 x18
      · refine j_aload_n X 0 rfl dX11_hasCircle_104 rfl ?_
        refine g_getf X 9 kf_358 cf_X11 (by decide) fl_X11_31 dX11_hasCircle_105 rfl rfl ?_
        refine j_iload_n X 3 rfl dX11_hasCircle_108 rfl ?_
        refine j_dup2 X dX11_hasCircle_109 rfl rfl ?_
        refine g_iald X 6 kf_366 (by decide) dX11_hasCircle_110 (fun h26 => ?_)
        refine j_aload_n X 0 rfl dX11_hasCircle_111 rfl ?_
        refine g_getf X 9 kf_358 cf_X11 (by decide) fl_X11_31 dX11_hasCircle_112 rfl rfl ?_
        refine j_iload_n X 3 rfl dX11_hasCircle_115 rfl ?_
        refine g_iald X 6 kf_366 (by decide) dX11_hasCircle_116 (fun h25 => ?_)
        refine j_iload_n X 2 rfl dX11_hasCircle_117 rfl ?_
        refine j_ishr X dX11_hasCircle_118 ?_
        refine j_iconst X (1 : Int32) dX11_hasCircle_119 (by rfl) ?_
        refine j_iand X dX11_hasCircle_120 ?_
        refine j_iconst X (1 : Int32) dX11_hasCircle_121 (by rfl) ?_
        refine j_join (fun k19 => ∀ (x21 : Int32), J κ 4 rm_X11_hasCircle (jQf κ rm_X11_hasCircle rvI (fun S9 M9 => M9 = memG 358 387 (kD κ) (kB κ) S9 X9) z) (k19 x21) (memG 358 387 (kD κ) (kB κ) S16 X9) z 0 0 [(0, .ref (kB κ + 358)), (1, .int (0 : Int32)), (2, .int x6), (3, .int x17)] 135 [.int x21, .int (S16 366 x17.toNatClampNeg), .int x17, .ref (kB κ + 366)]) ?_ (fun k19 hk19 => ?_)
        · intro x21
          refine j_ior X dX11_hasCircle_135 ?_
          refine g_iast X 6 kf_366 (by decide) dX11_hasCircle_136 (fun h24 S22 => ?_)
          refine j_iincL X 3 (fun x23 => [(3, .int x23), (0, .ref (kB κ + 358)), (1, .int (0 : Int32)), (2, .int x6)]) dX11_hasCircle_137 rfl (by rfl) (by decide) (fun _ => rfl) (fun x23 => ?_)
          refine j_goto X 98 dX11_hasCircle_140 (by decide) ?_
          refine j_lv [1, 2, 3, 0] rfl ?_
          exact hrec15 S22 x23
        · refine j_icmp_ne X 134 dX11_hasCircle_122 (by decide) ?_ ?_
          · refine j_aload_n X 0 rfl dX11_hasCircle_125 rfl ?_
            refine g_getf X 9 kf_358 cf_X11 (by decide) fl_X11_31 dX11_hasCircle_126 rfl rfl ?_
            refine j_iload_n X 2 rfl dX11_hasCircle_129 rfl ?_
            refine g_iald X 6 kf_366 (by decide) dX11_hasCircle_130 (fun h20 => ?_)
            refine j_goto X 135 dX11_hasCircle_131 (by decide) ?_
            exact hk19 (S16 366 x6.toNatClampNeg)
          · refine j_iconst X (0 : Int32) dX11_hasCircle_134 (by rfl) ?_
            exact hk19 (0 : Int32)
  · refine j_aload_n X 0 rfl dX11_hasCircle_8 rfl ?_
    refine g_getf X 9 kf_358 cf_X11 (by decide) fl_X11_31 dX11_hasCircle_9 rfl rfl ?_
    refine j_iload_n X 1 rfl dX11_hasCircle_12 rfl ?_
    refine j_iconst X (0 : Int32) dX11_hasCircle_13 (by rfl) ?_
    refine g_iast X 6 kf_366 (by decide) dX11_hasCircle_14 (fun h49 S27 => ?_)
    refine j_iconst X (0 : Int32) dX11_hasCircle_15 (by rfl) ?_
    refine j_istore_n X [(2, .int (0 : Int32)), (0, .ref (kB κ + 358)), (1, .int x3)] dX11_hasCircle_16 rfl (by decide) rfl ?_
    refine j_lv [1, 2, 0] rfl ?_
    refine j_loop (fun (k : jS → Int32 → Option (jR jS)) => ∀ (S29 : jS) (x30 : Int32), J κ 4 rm_X11_hasCircle (jQf κ rm_X11_hasCircle rvI (fun S9 M9 => M9 = memG 358 387 (kD κ) (kB κ) S9 X9) z) (k S29 x30) (memG 358 387 (kD κ) (kB κ) S29 X9) z 0 0 [(0, .ref (kB κ + 358)), (1, .int x3), (2, .int x30)] 17 []) (fun _ _ => j_none) (fun rec28 hrec28 => ?_) 1000 _ _
    intro S29 x30
    refine j_iload_n X 2 rfl dX11_hasCircle_17 rfl ?_
    refine j_aload_n X 0 rfl dX11_hasCircle_18 rfl ?_
    refine g_getf X 6 kf_358 cf_X11 (by decide) fl_X11_25 dX11_hasCircle_19 rfl rfl ?_
    refine j_iload_n X 1 rfl dX11_hasCircle_22 rfl ?_
    refine g_iald X 6 kf_364 (by decide) dX11_hasCircle_23 (fun h48 => ?_)
    refine j_icmp_ge X 80 dX11_hasCircle_24 (by decide) ?_ ?_
    · refine j_iincL X 1 (fun x31 => [(1, .int x31), (0, .ref (kB κ + 358)), (2, .int x30)]) dX11_hasCircle_80 rfl (by rfl) (by decide) (fun _ => rfl) (fun x31 => ?_)
      refine j_goto X 2 dX11_hasCircle_83 (by decide) ?_
      refine j_lv [1, 0] rfl ?_
      exact hrec1 S29 x31
    · refine j_aload_n X 0 rfl dX11_hasCircle_27 rfl ?_
      refine j_iload_n X 1 rfl dX11_hasCircle_28 rfl ?_
      refine j_iload_n X 2 rfl dX11_hasCircle_29 rfl ?_
      refine j_call0V X 0 0 (c_X11_signOf X.tr S29 X9 z x3 x30) me_X11_signOf ml_X11_124 iv_X11_signOf cf_X11 dX11_hasCircle_30 (memG_at kf_358) (rest := []) rfl rfl (by decide) (by decide) (Nat.le_of_ble_eq_true rfl) (fun v32 u47 M46 hM45 => ?_)
      subst M46
      refine j_st (st1 := [.int v32]) rfl ?_
      refine j_bipush X (64 : Int32) dX11_hasCircle_33 (by rfl) ?_
      refine j_join (fun k33 => ∀ (x34 : Int32), J κ 4 rm_X11_hasCircle (jQf κ rm_X11_hasCircle rvI (fun S9 M9 => M9 = memG 358 387 (kD κ) (kB κ) S9 X9) z) (k33 x34) (memG 358 387 (kD κ) (kB κ) S29 X9) z 0 0 [(0, .ref (kB κ + 358)), (1, .int x3), (2, .int x30)] 43 [.int x34]) ?_ (fun k33 hk33 => ?_)
      · intro x34
        refine j_istore_n X [(3, .int x34), (0, .ref (kB κ + 358)), (1, .int x3), (2, .int x30)] dX11_hasCircle_43 rfl (by decide) rfl ?_
        refine j_aload_n X 1 rfl dX11_hasCircle_44 rfl ?_
        refine g_getf X 9 kf_358 cf_X11 (by decide) fl_X11_31 dX11_hasCircle_45 rfl rfl ?_
        refine j_iload_n X 2 rfl dX11_hasCircle_48 rfl ?_
        refine j_dup2 X dX11_hasCircle_49 rfl rfl ?_
        refine g_iald X 6 kf_366 (by decide) dX11_hasCircle_50 (fun h44 => ?_)
        refine j_iload_n X 0 rfl dX11_hasCircle_51 rfl ?_
        refine j_join (fun k35 => ∀ (x40 : Int32), J κ 4 rm_X11_hasCircle (jQf κ rm_X11_hasCircle rvI (fun S9 M9 => M9 = memG 358 387 (kD κ) (kB κ) S9 X9) z) (k35 x40) (memG 358 387 (kD κ) (kB κ) S29 X9) z 0 0 [(0, .ref (kB κ + 358)), (1, .int x3), (2, .int x30)] 72 [.int x40, .int (S29 366 x3.toNatClampNeg), .int x3, .ref (kB κ + 366)]) ?_ (fun k35 hk35 => ?_)
        · intro x40
          refine j_ior X dX11_hasCircle_72 ?_
          refine g_iast X 6 kf_366 (by decide) dX11_hasCircle_73 (fun h43 S41 => ?_)
          refine j_iincL X 2 (fun x42 => [(2, .int x42), (0, .ref (kB κ + 358)), (1, .int x3)]) dX11_hasCircle_74 rfl (by rfl) (by decide) (fun _ => rfl) (fun x42 => ?_)
          refine j_goto X 17 dX11_hasCircle_77 (by decide) ?_
          refine j_lv [1, 2, 0] rfl ?_
          exact hrec28 S41 x42
        · refine j_if_eq X 71 dX11_hasCircle_52 (by decide) ?_ ?_
          · refine j_iconst X (0 : Int32) dX11_hasCircle_71 (by rfl) ?_
            refine j_lv [1, 2, 3] rfl ?_
            exact hk35 (0 : Int32)
          · refine j_iconst X (1 : Int32) dX11_hasCircle_55 (by rfl) ?_
            refine j_aload_n X 1 rfl dX11_hasCircle_56 rfl ?_
            refine j_iload_n X 2 rfl dX11_hasCircle_57 rfl ?_
            refine j_iload_n X 3 rfl dX11_hasCircle_58 rfl ?_
            refine j_iconst X (1 : Int32) dX11_hasCircle_59 (by rfl) ?_
            refine j_iadd X dX11_hasCircle_60 ?_
            refine j_call0V X 0 0 (c_X11_signOf X.tr S29 X9 z x3 ((x30 + (1 : Int32)))) me_X11_signOf ml_X11_124 iv_X11_signOf cf_X11 dX11_hasCircle_61 (memG_at kf_358) (rest := [.int (1 : Int32), .int (S29 366 x3.toNatClampNeg), .int x3, .ref (kB κ + 366)]) rfl rfl (by decide) (by decide) (Nat.le_of_ble_eq_true rfl) (fun v36 u39 M38 hM37 => ?_)
            subst M38
            refine j_st (st1 := [.int v36, .int (1 : Int32), .int (S29 366 x3.toNatClampNeg), .int x3, .ref (kB κ + 366)]) rfl ?_
            refine j_bipush X (48 : Int32) dX11_hasCircle_64 (by rfl) ?_
            refine j_isub X dX11_hasCircle_66 ?_
            refine j_ishl X dX11_hasCircle_67 ?_
            refine j_goto X 72 dX11_hasCircle_68 (by decide) ?_
            refine j_lv [1, 2, 3] rfl ?_
            exact hk35 (((1 : Int32) <<< ((v36 - (48 : Int32)) &&& 31)))
      · refine j_icmp_ne X 42 dX11_hasCircle_35 (by decide) ?_ ?_
        · refine j_iconst X (1 : Int32) dX11_hasCircle_38 (by rfl) ?_
          refine j_goto X 43 dX11_hasCircle_39 (by decide) ?_
          exact hk33 (1 : Int32)
        · refine j_iconst X (0 : Int32) dX11_hasCircle_42 (by rfl) ?_
          exact hk33 (0 : Int32)
def f_X11_canLay (S : jS) (p1 : Int32) : Option (jR jS) := jbin0 (f_X11_isAudience p1) (fun v1 _ => joinK (fun (_ : Unit) => chk (isb (0 : Int32)) (some (0, (0 : Int32), S))) (fun k2 => (if v1 = (0 : Int32) then k2 () else jbin0 (f_X11_faultOf S p1) (fun v3 _ => (if v3 = (-1 : Int32) then jbin0 (f_X11_layDraft S p1) (fun _ S4 => jbin0 (f_X11_hasCircle S4) (fun v5 S6 => joinK (fun (x8 : Int32) => joinK (fun (S14 : jS) => chk (isb x8) (some (0, x8, S14))) (fun k9 => (if x8 = (0 : Int32) then jbin0 (f_X11_layBack S6 p1) (fun _ S10 => k9 S10) else k9 S6))) (fun k7 => (if v5 = (0 : Int32) then k7 (1 : Int32) else k7 (0 : Int32))))) else k2 ())))))
abbrev rm_X11_canLay : Room := { frames := 4, cells := 0, slots := 0, locals := 92 }
set_option maxHeartbeats 4000000 in
set_option maxRecDepth 100000 in
theorem c_X11_canLay {l : Launch} {D : va_G} {B t0 : Nat} (hl9 : l.stackTraces = false) (S : jS) (X9 : jMem) (z : Nat → Prop) (p1 : Int32) : jCf l D B t0 yX11_canLay cX11_canLay 3 (some .boolean) rm_X11_canLay [.ref (B + 358), .int p1] (memG 358 387 D B S X9) z (f_X11_canLay S p1) rvI (fun S9 M9 => M9 = memG 358 387 D B S9 X9) z := by
  refine jC_of hl9 (me_X11_canLay).1 [(0, .ref (B + 358)), (1, .int p1)] ⟨by decide +kernel, Nat.le_of_ble_eq_true rfl⟩ rfl (fun κ hl hD hB hT X htab hin => ?_)
  subst hl hD hB hT
  have X : jX κ RX11 cX11_canLay 3 (some .boolean) := X
  unfold f_X11_canLay
  refine j_iload_n X 1 rfl dX11_canLay_0 rfl ?_
  refine j_call0S X 0 0 (c_X11_isAudience X.tr (memG 358 387 (kD κ) (kB κ) S X9) z p1) me_X11_isAudience ml_X11_110 st_X11_isAudience dX11_canLay_1 (rest := []) rfl rfl (by decide) (by decide) (Nat.le_of_ble_eq_true rfl) (fun v1 u25 M24 hM23 => ?_)
  subst M24
  refine j_st (st1 := [.int v1]) rfl ?_
  refine j_join (fun k2 => ∀ (_ : Unit), J κ 3 rm_X11_canLay (jQf κ rm_X11_canLay rvI (fun S9 M9 => M9 = memG 358 387 (kD κ) (kB κ) S9 X9) z) (k2 ()) (memG 358 387 (kD κ) (kB κ) S X9) z 0 0 [] 16 []) ?_ (fun k2 hk2 => ?_)
  · intro _
    refine j_iconst X (0 : Int32) dX11_canLay_16 (by rfl) ?_
    exact j_zret X dX11_canLay_17 rfl (fun _ h => h)
  · refine j_if_eq X 16 dX11_canLay_4 (by decide) ?_ ?_
    · refine j_lv [] rfl ?_
      exact hk2 ()
    · refine j_aload_n X 0 rfl dX11_canLay_7 rfl ?_
      refine j_iload_n X 1 rfl dX11_canLay_8 rfl ?_
      refine j_call0V X 0 0 (c_X11_faultOf X.tr S X9 z p1) me_X11_faultOf ml_X11_120 iv_X11_faultOf cf_X11 dX11_canLay_9 (memG_at kf_358) (rest := []) rfl rfl (by decide) (by decide) (Nat.le_of_ble_eq_true rfl) (fun v3 u22 M21 hM20 => ?_)
      subst M21
      refine j_st (st1 := [.int v3]) rfl ?_
      refine j_iconst X (-1 : Int32) dX11_canLay_12 (by rfl) ?_
      refine j_icmp_eq X 18 dX11_canLay_13 (by decide) ?_ ?_
      · refine j_aload_n X 0 rfl dX11_canLay_18 rfl ?_
        refine j_iload_n X 1 rfl dX11_canLay_19 rfl ?_
        refine j_call0V X 0 0 (c_X11_layDraft X.tr S X9 z p1) me_X11_layDraft ml_X11_144 iv_X11_layDraft cf_X11 dX11_canLay_20 (memG_at kf_358) (rest := []) rfl rfl (by decide) (by decide) (Nat.le_of_ble_eq_true rfl) (fun v19 S4 M18 hM17 => ?_)
        subst M18
        refine j_st (st1 := []) rfl ?_
        refine j_aload_n X 0 rfl dX11_canLay_23 rfl ?_
        refine j_call0V X 0 0 (c_X11_hasCircle X.tr S4 X9 z) me_X11_hasCircle ml_X11_148 iv_X11_hasCircle cf_X11 dX11_canLay_24 (memG_at kf_358) (rest := []) rfl rfl (by decide) (by decide) (Nat.le_of_ble_eq_true rfl) (fun v5 S6 M16 hM15 => ?_)
        subst M16
        refine j_st (st1 := [.int v5]) rfl ?_
        refine j_join (fun k7 => ∀ (x8 : Int32), J κ 3 rm_X11_canLay (jQf κ rm_X11_canLay rvI (fun S9 M9 => M9 = memG 358 387 (kD κ) (kB κ) S9 X9) z) (k7 x8) (memG 358 387 (kD κ) (kB κ) S6 X9) z 0 0 [(0, .ref (kB κ + 358)), (1, .int p1)] 35 [.int x8]) ?_ (fun k7 hk7 => ?_)
        · intro x8
          refine j_istore_n X [(2, .int x8), (0, .ref (kB κ + 358)), (1, .int p1)] dX11_canLay_35 rfl (by decide) rfl ?_
          refine j_iload_n X 0 rfl dX11_canLay_36 rfl ?_
          refine j_join (fun k9 => ∀ (S14 : jS), J κ 3 rm_X11_canLay (jQf κ rm_X11_canLay rvI (fun S9 M9 => M9 = memG 358 387 (kD κ) (kB κ) S9 X9) z) (k9 S14) (memG 358 387 (kD κ) (kB κ) S14 X9) z 0 0 [(2, .int x8)] 45 []) ?_ (fun k9 hk9 => ?_)
          · intro S14
            refine j_iload_n X 0 rfl dX11_canLay_45 rfl ?_
            exact j_zret X dX11_canLay_46 rfl (fun _ h => h)
          · refine j_if_ne X 45 dX11_canLay_37 (by decide) ?_ ?_
            · refine j_aload_n X 1 rfl dX11_canLay_40 rfl ?_
              refine j_iload_n X 2 rfl dX11_canLay_41 rfl ?_
              refine j_call0V X 0 0 (c_X11_layBack X.tr S6 X9 z p1) me_X11_layBack ml_X11_152 iv_X11_layBack cf_X11 dX11_canLay_42 (memG_at kf_358) (rest := []) rfl rfl (by decide) (by decide) (Nat.le_of_ble_eq_true rfl) (fun v13 S10 M12 hM11 => ?_)
              subst M12
              refine j_st (st1 := []) rfl ?_
              refine j_lv [0] rfl ?_
              exact hk9 S10
            · refine j_lv [0] rfl ?_
              exact hk9 S6
        · refine j_if_ne X 34 dX11_canLay_27 (by decide) ?_ ?_
          · refine j_iconst X (1 : Int32) dX11_canLay_30 (by rfl) ?_
            refine j_goto X 35 dX11_canLay_31 (by decide) ?_
            exact hk7 (1 : Int32)
          · refine j_iconst X (0 : Int32) dX11_canLay_34 (by rfl) ?_
            exact hk7 (0 : Int32)
      · refine j_lv [] rfl ?_
        exact hk2 ()
def f_X11_set (S : jS) (p1 : Int32) : Option (jR jS) := jbin0 (f_X11_gather S) (fun _ S1 => jbin0 (f_X11_isAudience p1) (fun v2 _ => joinK (fun (x5 : Int32) => jbin0 (f_X11_isAudience p1) (fun v6 _ => joinK (fun (S12 : jS) (x13 : Int32) => jbin0 (f_X11_goesWell S12 x13) (fun v14 S15 => (if v14 = (0 : Int32) then some (0, (0 : Int32), S15) else jbin0 (f_X11_gather S15) (fun _ S16 => chk (inb p1 6) (jbin0 (f_X11_countBits ((x5 ^^^ (S16 367 p1.toNatClampNeg)))) (fun v17 _ => some (0, v17, S16))))))) (fun k7 => (if v6 = (0 : Int32) then k7 S1 (1 : Int32) else jbin0 (f_X11_canLay S1 p1) (fun v8 S9 => (if v8 = (0 : Int32) then k7 S9 (2 : Int32) else k7 S9 (0 : Int32))))))) (fun k3 => (if v2 = (0 : Int32) then k3 (0 : Int32) else chk (inb p1 6) (k3 (S1 367 p1.toNatClampNeg))))))
abbrev rm_X11_set : Room := { frames := 6, cells := 0, slots := 0, locals := 144 }
set_option maxHeartbeats 4000000 in
set_option maxRecDepth 100000 in
theorem c_X11_set {l : Launch} {D : va_G} {B t0 : Nat} (hl9 : l.stackTraces = false) (S : jS) (X9 : jMem) (z : Nat → Prop) (p1 : Int32) : jCf l D B t0 yX11_set cX11_set 3 (some .int) rm_X11_set [.ref (B + 358), .int p1] (memG 358 387 D B S X9) z (f_X11_set S p1) rvI (fun S9 M9 => M9 = memG 358 387 D B S9 X9) z := by
  refine jC_of hl9 (me_X11_set).1 [(0, .ref (B + 358)), (1, .int p1)] ⟨by decide +kernel, Nat.le_of_ble_eq_true rfl⟩ rfl (fun κ hl hD hB hT X htab hin => ?_)
  subst hl hD hB hT
  have X : jX κ RX11 cX11_set 3 (some .int) := X
  unfold f_X11_set
  refine j_aload_n X 0 rfl dX11_set_0 rfl ?_
  refine j_call0V X 0 0 (c_X11_gather X.tr S X9 z) me_X11_gather ml_X11_155 iv_X11_gather cf_X11 dX11_set_1 (memG_at kf_358) (rest := []) rfl rfl (by decide) (by decide) (Nat.le_of_ble_eq_true rfl) (fun v35 S1 M34 hM33 => ?_)
  subst M34
  refine j_st (st1 := []) rfl ?_
  refine j_iload_n X 1 rfl dX11_set_4 rfl ?_
  refine j_call0S X 0 0 (c_X11_isAudience X.tr (memG 358 387 (kD κ) (kB κ) S1 X9) z p1) me_X11_isAudience ml_X11_110 st_X11_isAudience dX11_set_5 (rest := []) rfl rfl (by decide) (by decide) (Nat.le_of_ble_eq_true rfl) (fun v2 u32 M31 hM30 => ?_)
  subst M31
  refine j_st (st1 := [.int v2]) rfl ?_
  refine j_join (fun k3 => ∀ (x5 : Int32), J κ 3 rm_X11_set (jQf κ rm_X11_set rvI (fun S9 M9 => M9 = memG 358 387 (kD κ) (kB κ) S9 X9) z) (k3 x5) (memG 358 387 (kD κ) (kB κ) S1 X9) z 0 0 [(0, .ref (kB κ + 358)), (1, .int p1)] 21 [.int x5]) ?_ (fun k3 hk3 => ?_)
  · intro x5
    refine j_istore_n X [(2, .int x5), (0, .ref (kB κ + 358)), (1, .int p1)] dX11_set_21 rfl (by decide) rfl ?_
    refine j_aload_n X 1 rfl dX11_set_22 rfl ?_
    refine j_iload_n X 2 rfl dX11_set_23 rfl ?_
    refine j_call0S X 0 0 (c_X11_isAudience X.tr (memG 358 387 (kD κ) (kB κ) S1 X9) z p1) me_X11_isAudience ml_X11_110 st_X11_isAudience dX11_set_24 (rest := [.ref (kB κ + 358)]) rfl rfl (by decide) (by decide) (Nat.le_of_ble_eq_true rfl) (fun v6 u29 M28 hM27 => ?_)
    subst M28
    refine j_st (st1 := [.int v6, .ref (kB κ + 358)]) rfl ?_
    refine j_join (fun k7 => ∀ (S12 : jS) (x13 : Int32), J κ 3 rm_X11_set (jQf κ rm_X11_set rvI (fun S9 M9 => M9 = memG 358 387 (kD κ) (kB κ) S9 X9) z) (k7 S12 x13) (memG 358 387 (kD κ) (kB κ) S12 X9) z 0 0 [(0, .ref (kB κ + 358)), (1, .int p1), (2, .int x5)] 47 [.int x13, .ref (kB κ + 358)]) ?_ (fun k7 hk7 => ?_)
    · intro S12 x13
      refine j_call0V X 0 0 (c_X11_goesWell X.tr S12 X9 z x13) me_X11_goesWell ml_X11_107 iv_X11_goesWell cf_X11 dX11_set_47 (memG_at kf_358) (rest := []) rfl rfl (by decide) (by decide) (Nat.le_of_ble_eq_true rfl) (fun v14 S15 M26 hM25 => ?_)
      subst M26
      refine j_st (st1 := [.int v14]) rfl ?_
      refine j_if_ne X 55 dX11_set_50 (by decide) ?_ ?_
      · refine j_iconst X (0 : Int32) dX11_set_53 (by rfl) ?_
        exact j_iret X dX11_set_54 rfl (fun _ h => h)
      · refine j_aload_n X 0 rfl dX11_set_55 rfl ?_
        refine j_call0V X 0 0 (c_X11_gather X.tr S15 X9 z) me_X11_gather ml_X11_155 iv_X11_gather cf_X11 dX11_set_56 (memG_at kf_358) (rest := []) rfl rfl (by decide) (by decide) (Nat.le_of_ble_eq_true rfl) (fun v24 S16 M23 hM22 => ?_)
        subst M23
        refine j_st (st1 := []) rfl ?_
        refine j_iload_n X 2 rfl dX11_set_59 rfl ?_
        refine j_aload_n X 0 rfl dX11_set_60 rfl ?_
        refine g_getf X 10 kf_358 cf_X11 (by decide) fl_X11_34 dX11_set_61 rfl rfl ?_
        refine j_iload_n X 1 rfl dX11_set_64 rfl ?_
        refine g_iald X 6 kf_367 (by decide) dX11_set_65 (fun h21 => ?_)
        refine j_ixor X dX11_set_66 ?_
        refine j_call0S X 0 0 (c_X11_countBits X.tr (memG 358 387 (kD κ) (kB κ) S16 X9) z ((x5 ^^^ (S16 367 p1.toNatClampNeg)))) me_X11_countBits ml_X11_161 st_X11_countBits dX11_set_67 (rest := []) rfl rfl (by decide) (by decide) (Nat.le_of_ble_eq_true rfl) (fun v17 u20 M19 hM18 => ?_)
        subst M19
        refine j_st (st1 := [.int v17]) rfl ?_
        exact j_iret X dX11_set_70 rfl (fun _ h => h)
    · refine j_if_ne X 34 dX11_set_27 (by decide) ?_ ?_
      · refine j_iconst X (1 : Int32) dX11_set_30 (by rfl) ?_
        refine j_goto X 47 dX11_set_31 (by decide) ?_
        refine j_lv [1, 2, 0] rfl ?_
        exact hk7 S1 (1 : Int32)
      · refine j_aload_n X 1 rfl dX11_set_34 rfl ?_
        refine j_iload_n X 2 rfl dX11_set_35 rfl ?_
        refine j_call0V X 0 0 (c_X11_canLay X.tr S1 X9 z p1) me_X11_canLay ml_X11_158 iv_X11_canLay cf_X11 dX11_set_36 (memG_at kf_358) (rest := [.ref (kB κ + 358)]) rfl rfl (by decide) (by decide) (Nat.le_of_ble_eq_true rfl) (fun v8 S9 M11 hM10 => ?_)
        subst M11
        refine j_st (st1 := [.int v8, .ref (kB κ + 358)]) rfl ?_
        refine j_if_eq X 46 dX11_set_39 (by decide) ?_ ?_
        · refine j_iconst X (2 : Int32) dX11_set_46 (by rfl) ?_
          refine j_lv [1, 2, 0] rfl ?_
          exact hk7 S9 (2 : Int32)
        · refine j_iconst X (0 : Int32) dX11_set_42 (by rfl) ?_
          refine j_goto X 47 dX11_set_43 (by decide) ?_
          refine j_lv [1, 2, 0] rfl ?_
          exact hk7 S9 (0 : Int32)
  · refine j_if_eq X 20 dX11_set_8 (by decide) ?_ ?_
    · refine j_iconst X (0 : Int32) dX11_set_20 (by rfl) ?_
      exact hk3 (0 : Int32)
    · refine j_aload_n X 0 rfl dX11_set_11 rfl ?_
      refine g_getf X 10 kf_358 cf_X11 (by decide) fl_X11_34 dX11_set_12 rfl rfl ?_
      refine j_iload_n X 1 rfl dX11_set_15 rfl ?_
      refine g_iald X 6 kf_367 (by decide) dX11_set_16 (fun h4 => ?_)
      refine j_goto X 21 dX11_set_17 (by decide) ?_
      exact hk3 (S1 367 p1.toNatClampNeg)
end GEN
