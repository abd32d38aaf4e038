section GEN
def f_X10_hasBit (p0 : Int32) (p1 : Int32) : Option (jR Unit) := joinK (fun (x2 : Int32) => chk (isb x2) (some (0, x2, ()))) (fun k1 => (if ((p0 >>> (p1 &&& 31)) &&& (1 : Int32)) = (0 : Int32) then k1 (0 : Int32) else k1 (1 : Int32)))
abbrev rm_X10_hasBit : Room := { frames := 0, cells := 0, slots := 0, locals := 0 }
set_option maxHeartbeats 4000000 in
set_option maxRecDepth 100000 in
theorem c_X10_hasBit {l : Launch} {D : va_G} {B t0 : Nat} (hl9 : l.stackTraces = false) (M : jMem) (z : Nat → Prop) (p0 : Int32) (p1 : Int32) : jCf l D B t0 yX10_hasBit cX10_hasBit 2 (some .boolean) rm_X10_hasBit [.int p0, .int p1] M z (f_X10_hasBit p0 p1) rvI (fun (S9 : Unit) M9 => M9 = M) z := by
  refine jC_of hl9 (me_X10_hasBit).1 [(0, .int p0), (1, .int p1)] ⟨by decide +kernel, Nat.le_of_ble_eq_true rfl⟩ rfl (fun κ hl hD hB hT X htab hin => ?_)
  subst hl hD hB hT
  have X : jX κ RX10 cX10_hasBit 2 (some .boolean) := X
  unfold f_X10_hasBit
  refine j_iload_n X 0 rfl dX10_hasBit_0 rfl ?_
  refine j_iload_n X 1 rfl dX10_hasBit_1 rfl ?_
  refine j_ishr X dX10_hasBit_2 ?_
  refine j_iconst X (1 : Int32) dX10_hasBit_3 (by rfl) ?_
  refine j_iand X dX10_hasBit_4 ?_
  refine j_join (fun k1 => ∀ (x2 : Int32), J κ 2 rm_X10_hasBit (jQf κ rm_X10_hasBit rvI (fun (S9 : Unit) M9 => M9 = M) z) (k1 x2) M z 0 0 [] 13 [.int x2]) ?_ (fun k1 hk1 => ?_)
  · intro x2
    exact j_zret X dX10_hasBit_13 rfl (fun _ h => h)
  · refine j_if_eq X 12 dX10_hasBit_5 (by decide) ?_ ?_
    · refine j_iconst X (0 : Int32) dX10_hasBit_12 (by rfl) ?_
      refine j_lv [] rfl ?_
      exact hk1 (0 : Int32)
    · refine j_iconst X (1 : Int32) dX10_hasBit_8 (by rfl) ?_
      refine j_goto X 13 dX10_hasBit_9 (by decide) ?_
      refine j_lv [] rfl ?_
      exact hk1 (1 : Int32)
def f_X10_withBit (p0 : Int32) (p1 : Int32) (p2 : Int32) : Option (jR Unit) := joinK (fun (x2 : Int32) => some (0, x2, ())) (fun k1 => (if p2 = (0 : Int32) then k1 ((p0 &&& (((1 : Int32) <<< (p1 &&& 31)) ^^^ (-1 : Int32)))) else k1 ((p0 ||| ((1 : Int32) <<< (p1 &&& 31))))))
abbrev rm_X10_withBit : Room := { frames := 0, cells := 0, slots := 0, locals := 0 }
set_option maxHeartbeats 4000000 in
set_option maxRecDepth 100000 in
theorem c_X10_withBit {l : Launch} {D : va_G} {B t0 : Nat} (hl9 : l.stackTraces = false) (M : jMem) (z : Nat → Prop) (p0 : Int32) (p1 : Int32) (p2 : Int32) : jCf l D B t0 yX10_withBit cX10_withBit 3 (some .int) rm_X10_withBit [.int p0, .int p1, .int p2] M z (f_X10_withBit p0 p1 p2) rvI (fun (S9 : Unit) M9 => M9 = M) z := by
  refine jC_of hl9 (me_X10_withBit).1 [(0, .int p0), (1, .int p1), (2, .int p2)] ⟨by decide +kernel, Nat.le_of_ble_eq_true rfl⟩ rfl (fun κ hl hD hB hT X htab hin => ?_)
  subst hl hD hB hT
  have X : jX κ RX10 cX10_withBit 3 (some .int) := X
  unfold f_X10_withBit
  refine j_iload_n X 2 rfl dX10_withBit_0 rfl ?_
  refine j_join (fun k1 => ∀ (x2 : Int32), J κ 3 rm_X10_withBit (jQf κ rm_X10_withBit rvI (fun (S9 : Unit) M9 => M9 = M) z) (k1 x2) M z 0 0 [] 19 [.int x2]) ?_ (fun k1 hk1 => ?_)
  · intro x2
    exact j_iret X dX10_withBit_19 rfl (fun _ h => h)
  · refine j_if_eq X 12 dX10_withBit_1 (by decide) ?_ ?_
    · refine j_iload_n X 0 rfl dX10_withBit_12 rfl ?_
      refine j_iconst X (1 : Int32) dX10_withBit_13 (by rfl) ?_
      refine j_iload_n X 1 rfl dX10_withBit_14 rfl ?_
      refine j_ishl X dX10_withBit_15 ?_
      refine j_iconst X (-1 : Int32) dX10_withBit_16 (by rfl) ?_
      refine j_ixor X dX10_withBit_17 ?_
      refine j_iand X dX10_withBit_18 ?_
      refine j_lv [] rfl ?_
      exact hk1 ((p0 &&& (((1 : Int32) <<< (p1 &&& 31)) ^^^ (-1 : Int32))))
    · refine j_iload_n X 0 rfl dX10_withBit_4 rfl ?_
      refine j_iconst X (1 : Int32) dX10_withBit_5 (by rfl) ?_
      refine j_iload_n X 1 rfl dX10_withBit_6 rfl ?_
      refine j_ishl X dX10_withBit_7 ?_
      refine j_ior X dX10_withBit_8 ?_
      refine j_goto X 19 dX10_withBit_9 (by decide) ?_
      refine j_lv [] rfl ?_
      exact hk1 ((p0 ||| ((1 : Int32) <<< (p1 &&& 31))))
def f_X10_mostOf (p0 : Int32) : Option (jR Unit) := joinK (fun (x2 : Int32) => some (0, x2, ())) (fun k1 => (if p0 = (0 : Int32) then k1 (9 : Int32) else (if p0 = (1 : Int32) then k1 (99 : Int32) else k1 (3 : Int32))))
abbrev rm_X10_mostOf : Room := { frames := 0, cells := 0, slots := 0, locals := 0 }
set_option maxHeartbeats 4000000 in
set_option maxRecDepth 100000 in
theorem c_X10_mostOf {l : Launch} {D : va_G} {B t0 : Nat} (hl9 : l.stackTraces = false) (M : jMem) (z : Nat → Prop) (p0 : Int32) : jCf l D B t0 yX10_mostOf cX10_mostOf 1 (some .int) rm_X10_mostOf [.int p0] M z (f_X10_mostOf p0) rvI (fun (S9 : Unit) M9 => M9 = M) z := by
  refine jC_of hl9 (me_X10_mostOf).1 [(0, .int p0)] ⟨by decide +kernel, Nat.le_of_ble_eq_true rfl⟩ rfl (fun κ hl hD hB hT X htab hin => ?_)
  subst hl hD hB hT
  have X : jX κ RX10 cX10_mostOf 1 (some .int) := X
  unfold f_X10_mostOf
  refine j_iload_n X 0 rfl dX10_mostOf_0 rfl ?_
  refine j_join (fun k1 => ∀ (x2 : Int32), J κ 1 rm_X10_mostOf (jQf κ rm_X10_mostOf rvI (fun (S9 : Unit) M9 => M9 = M) z) (k1 x2) M z 0 0 [] 20 [.int x2]) ?_ (fun k1 hk1 => ?_)
  · intro x2
    exact j_iret X dX10_mostOf_20 rfl (fun _ h => h)
  · refine j_if_ne X 9 dX10_mostOf_1 (by decide) ?_ ?_
    · refine j_bipush X (9 : Int32) dX10_mostOf_4 (by rfl) ?_
      refine j_goto X 20 dX10_mostOf_6 (by decide) ?_
      refine j_lv [] rfl ?_
      exact hk1 (9 : Int32)
    · refine j_iload_n X 0 rfl dX10_mostOf_9 rfl ?_
      refine j_iconst X (1 : Int32) dX10_mostOf_10 (by rfl) ?_
      refine j_icmp_ne X 19 dX10_mostOf_11 (by decide) ?_ ?_
      · refine j_bipush X (99 : Int32) dX10_mostOf_14 (by rfl) ?_
        refine j_goto X 20 dX10_mostOf_16 (by decide) ?_
        refine j_lv [] rfl ?_
        exact hk1 (99 : Int32)
      · refine j_iconst X (3 : Int32) dX10_mostOf_19 (by rfl) ?_
        refine j_lv [] rfl ?_
        exact hk1 (3 : Int32)
def f_X10_checkRange (p0 : Int32) (p1 : Int32) (p2 : Int32) : Option (jR Unit) := joinK (fun (_ : Unit) => some (1, (0 : Int32), ())) (fun k1 => (if p0 < p1 then k1 () else (if p0 ≤ p2 then some (0, (0 : Int32), ()) else k1 ())))
abbrev rm_X10_checkRange : Room := { frames := 6, cells := 1, slots := 6, locals := 90 }
set_option maxHeartbeats 4000000 in
set_option maxRecDepth 100000 in
theorem c_X10_checkRange {l : Launch} {D : va_G} {B t0 : Nat} (hl9 : l.stackTraces = false) (M : jMem) (z : Nat → Prop) (p0 : Int32) (p1 : Int32) (p2 : Int32) : jCf l D B t0 yX10_checkRange cX10_checkRange 3 none rm_X10_checkRange [.int p0, .int p1, .int p2] M z (f_X10_checkRange p0 p1 p2) rvV (fun (S9 : Unit) M9 => M9 = M) z := by
  refine jC_of hl9 (me_X10_checkRange).1 [(0, .int p0), (1, .int p1), (2, .int p2)] ⟨by decide +kernel, Nat.le_of_ble_eq_true rfl⟩ rfl (fun κ hl hD hB hT X htab hin => ?_)
  subst hl hD hB hT
  have X : jX κ RX10 cX10_checkRange 3 none := X
  unfold f_X10_checkRange
  refine j_iload_n X 0 rfl dX10_checkRange_0 rfl ?_
  refine j_iload_n X 1 rfl dX10_checkRange_1 rfl ?_
  refine j_join (fun k1 => ∀ (_ : Unit), J κ 3 rm_X10_checkRange (jQf κ rm_X10_checkRange rvV (fun (S9 : Unit) M9 => M9 = M) z) (k1 ()) M z 1 6 [] 10 []) ?_ (fun k1 hk1 => ?_)
  · intro _
    exact j_throwW X th_X10_1_124_128 sr_X10_303 htab dX10_checkRange_10 dX10_checkRange_13 dX10_checkRange_14 dX10_checkRange_17 dX10_checkRange_20 (by decide) (by decide) rfl
  · refine j_icmp_lt X 10 dX10_checkRange_2 (by decide) ?_ ?_
    · refine j_lv [] rfl ?_
      exact hk1 ()
    · refine j_iload_n X 0 rfl dX10_checkRange_5 rfl ?_
      refine j_iload_n X 2 rfl dX10_checkRange_6 rfl ?_
      refine j_icmp_le X 21 dX10_checkRange_7 (by decide) ?_ ?_
      · exact j_vret X dX10_checkRange_21 rfl (fun _ h => h)
      · refine j_lv [] rfl ?_
        exact hk1 ()
def f_X10_checkPerson (p0 : Int32) : Option (jR Unit) := jbind (f_X10_checkRange p0 (0 : Int32) (19 : Int32)) (fun _ _ => some (0, (0 : Int32), ())) (fun t S => some (t, (0 : Int32), ()))
abbrev rm_X10_checkPerson : Room := { frames := 7, cells := 1, slots := 6, locals := 112 }
set_option maxHeartbeats 4000000 in
set_option maxRecDepth 100000 in
theorem c_X10_checkPerson {l : Launch} {D : va_G} {B t0 : Nat} (hl9 : l.stackTraces = false) (M : jMem) (z : Nat → Prop) (p0 : Int32) : jCf l D B t0 yX10_checkPerson cX10_checkPerson 1 none rm_X10_checkPerson [.int p0] M z (f_X10_checkPerson p0) rvV (fun (S9 : Unit) M9 => M9 = M) z := by
  refine jC_of hl9 (me_X10_checkPerson).1 [(0, .int p0)] ⟨by decide +kernel, Nat.le_of_ble_eq_true rfl⟩ rfl (fun κ hl hD hB hT X htab hin => ?_)
  subst hl hD hB hT
  have X : jX κ RX10 cX10_checkPerson 1 none := X
  unfold f_X10_checkPerson
  refine j_iload_n X 0 rfl dX10_checkPerson_0 rfl ?_
  refine j_iconst X (0 : Int32) dX10_checkPerson_1 (by rfl) ?_
  refine j_bipush X (19 : Int32) dX10_checkPerson_2 (by rfl) ?_
  refine j_callS X 0 0 (c_X10_checkRange X.tr M z p0 (0 : Int32) (19 : Int32)) me_X10_checkRange ml_X10_74 st_X10_checkRange htab dX10_checkPerson_4 (rest := []) rfl rfl (by decide) (by decide) (Nat.le_of_ble_eq_true rfl) (fun t S9 M9 r9 hp9 hr9 => by cases hr9; exact ⟨rfl, hp9⟩) (fun v3 u4 M2 hM1 => ?_)
  subst hM1
  exact j_vret X dX10_checkPerson_7 rfl (fun _ h => h)
def f_X10_checkAudience (p0 : Int32) : Option (jR Unit) := jbind (f_X10_checkRange p0 (0 : Int32) (5 : Int32)) (fun _ _ => some (0, (0 : Int32), ())) (fun t S => some (t, (0 : Int32), ()))
abbrev rm_X10_checkAudience : Room := { frames := 7, cells := 1, slots := 6, locals := 112 }
set_option maxHeartbeats 4000000 in
set_option maxRecDepth 100000 in
theorem c_X10_checkAudience {l : Launch} {D : va_G} {B t0 : Nat} (hl9 : l.stackTraces = false) (M : jMem) (z : Nat → Prop) (p0 : Int32) : jCf l D B t0 yX10_checkAudience cX10_checkAudience 1 none rm_X10_checkAudience [.int p0] M z (f_X10_checkAudience p0) rvV (fun (S9 : Unit) M9 => M9 = M) z := by
  refine jC_of hl9 (me_X10_checkAudience).1 [(0, .int p0)] ⟨by decide +kernel, Nat.le_of_ble_eq_true rfl⟩ rfl (fun κ hl hD hB hT X htab hin => ?_)
  subst hl hD hB hT
  have X : jX κ RX10 cX10_checkAudience 1 none := X
  unfold f_X10_checkAudience
  refine j_iload_n X 0 rfl dX10_checkAudience_0 rfl ?_
  refine j_iconst X (0 : Int32) dX10_checkAudience_1 (by rfl) ?_
  refine j_iconst X (5 : Int32) dX10_checkAudience_2 (by rfl) ?_
  refine j_callS X 0 0 (c_X10_checkRange X.tr M z p0 (0 : Int32) (5 : Int32)) me_X10_checkRange ml_X10_74 st_X10_checkRange htab dX10_checkAudience_3 (rest := []) rfl rfl (by decide) (by decide) (Nat.le_of_ble_eq_true rfl) (fun t S9 M9 r9 hp9 hr9 => by cases hr9; exact ⟨rfl, hp9⟩) (fun v3 u4 M2 hM1 => ?_)
  subst hM1
  exact j_vret X dX10_checkAudience_6 rfl (fun _ h => h)
def f_X10_checkFlag (p0 : Int32) : Option (jR Unit) := jbind (f_X10_checkRange p0 (0 : Int32) (7 : Int32)) (fun _ _ => some (0, (0 : Int32), ())) (fun t S => some (t, (0 : Int32), ()))
abbrev rm_X10_checkFlag : Room := { frames := 7, cells := 1, slots := 6, locals := 112 }
set_option maxHeartbeats 4000000 in
set_option maxRecDepth 100000 in
theorem c_X10_checkFlag {l : Launch} {D : va_G} {B t0 : Nat} (hl9 : l.stackTraces = false) (M : jMem) (z : Nat → Prop) (p0 : Int32) : jCf l D B t0 yX10_checkFlag cX10_checkFlag 1 none rm_X10_checkFlag [.int p0] M z (f_X10_checkFlag p0) rvV (fun (S9 : Unit) M9 => M9 = M) z := by
  refine jC_of hl9 (me_X10_checkFlag).1 [(0, .int p0)] ⟨by decide +kernel, Nat.le_of_ble_eq_true rfl⟩ rfl (fun κ hl hD hB hT X htab hin => ?_)
  subst hl hD hB hT
  have X : jX κ RX10 cX10_checkFlag 1 none := X
  unfold f_X10_checkFlag
  refine j_iload_n X 0 rfl dX10_checkFlag_0 rfl ?_
  refine j_iconst X (0 : Int32) dX10_checkFlag_1 (by rfl) ?_
  refine j_bipush X (7 : Int32) dX10_checkFlag_2 (by rfl) ?_
  refine j_callS X 0 0 (c_X10_checkRange X.tr M z p0 (0 : Int32) (7 : Int32)) me_X10_checkRange ml_X10_74 st_X10_checkRange htab dX10_checkFlag_4 (rest := []) rfl rfl (by decide) (by decide) (Nat.le_of_ble_eq_true rfl) (fun t S9 M9 r9 hp9 hr9 => by cases hr9; exact ⟨rfl, hp9⟩) (fun v3 u4 M2 hM1 => ?_)
  subst hM1
  exact j_vret X dX10_checkFlag_7 rfl (fun _ h => h)
def f_X10_checkTrial (p0 : Int32) : Option (jR Unit) := jbind (f_X10_checkRange p0 (0 : Int32) (5 : Int32)) (fun _ _ => some (0, (0 : Int32), ())) (fun t S => some (t, (0 : Int32), ()))
abbrev rm_X10_checkTrial : Room := { frames := 7, cells := 1, slots := 6, locals := 112 }
set_option maxHeartbeats 4000000 in
set_option maxRecDepth 100000 in
theorem c_X10_checkTrial {l : Launch} {D : va_G} {B t0 : Nat} (hl9 : l.stackTraces = false) (M : jMem) (z : Nat → Prop) (p0 : Int32) : jCf l D B t0 yX10_checkTrial cX10_checkTrial 1 none rm_X10_checkTrial [.int p0] M z (f_X10_checkTrial p0) rvV (fun (S9 : Unit) M9 => M9 = M) z := by
  refine jC_of hl9 (me_X10_checkTrial).1 [(0, .int p0)] ⟨by decide +kernel, Nat.le_of_ble_eq_true rfl⟩ rfl (fun κ hl hD hB hT X htab hin => ?_)
  subst hl hD hB hT
  have X : jX κ RX10 cX10_checkTrial 1 none := X
  unfold f_X10_checkTrial
  refine j_iload_n X 0 rfl dX10_checkTrial_0 rfl ?_
  refine j_iconst X (0 : Int32) dX10_checkTrial_1 (by rfl) ?_
  refine j_iconst X (5 : Int32) dX10_checkTrial_2 (by rfl) ?_
  refine j_callS X 0 0 (c_X10_checkRange X.tr M z p0 (0 : Int32) (5 : Int32)) me_X10_checkRange ml_X10_74 st_X10_checkRange htab dX10_checkTrial_3 (rest := []) rfl rfl (by decide) (by decide) (Nat.le_of_ble_eq_true rfl) (fun t S9 M9 r9 hp9 hr9 => by cases hr9; exact ⟨rfl, hp9⟩) (fun v3 u4 M2 hM1 => ?_)
  subst hM1
  exact j_vret X dX10_checkTrial_6 rfl (fun _ h => h)
def f_X10_checkVariant (p0 : Int32) : Option (jR Unit) := jbind (f_X10_checkRange p0 (0 : Int32) (3 : Int32)) (fun _ _ => some (0, (0 : Int32), ())) (fun t S => some (t, (0 : Int32), ()))
abbrev rm_X10_checkVariant : Room := { frames := 7, cells := 1, slots := 6, locals := 112 }
set_option maxHeartbeats 4000000 in
set_option maxRecDepth 100000 in
theorem c_X10_checkVariant {l : Launch} {D : va_G} {B t0 : Nat} (hl9 : l.stackTraces = false) (M : jMem) (z : Nat → Prop) (p0 : Int32) : jCf l D B t0 yX10_checkVariant cX10_checkVariant 1 none rm_X10_checkVariant [.int p0] M z (f_X10_checkVariant p0) rvV (fun (S9 : Unit) M9 => M9 = M) z := by
  refine jC_of hl9 (me_X10_checkVariant).1 [(0, .int p0)] ⟨by decide +kernel, Nat.le_of_ble_eq_true rfl⟩ rfl (fun κ hl hD hB hT X htab hin => ?_)
  subst hl hD hB hT
  have X : jX κ RX10 cX10_checkVariant 1 none := X
  unfold f_X10_checkVariant
  refine j_iload_n X 0 rfl dX10_checkVariant_0 rfl ?_
  refine j_iconst X (0 : Int32) dX10_checkVariant_1 (by rfl) ?_
  refine j_iconst X (3 : Int32) dX10_checkVariant_2 (by rfl) ?_
  refine j_callS X 0 0 (c_X10_checkRange X.tr M z p0 (0 : Int32) (3 : Int32)) me_X10_checkRange ml_X10_74 st_X10_checkRange htab dX10_checkVariant_3 (rest := []) rfl rfl (by decide) (by decide) (Nat.le_of_ble_eq_true rfl) (fun t S9 M9 r9 hp9 hr9 => by cases hr9; exact ⟨rfl, hp9⟩) (fun v3 u4 M2 hM1 => ?_)
  subst hM1
  exact j_vret X dX10_checkVariant_6 rfl (fun _ h => h)
def f_X10_differ (S : jS) (a0 : Nat) (a1 : Nat) : Option (jR Unit) := loopK (fun (rec1 : Int32 → Option (jR Unit)) (x2 : Int32) => (if (8 : Int32) ≤ x2 then chk (isb (0 : Int32)) (some (0, (0 : Int32), ())) else chk (inb x2 8) (chk (inb x2 8) ((if (S a0 x2.toNatClampNeg) = (S a1 x2.toNatClampNeg) then letE (x2 + (1 : Int32)) fun x3 => rec1 x3 else chk (isb (1 : Int32)) (some (0, (1 : Int32), ()))))))) (fun _ => none) 1000 (0 : Int32)
abbrev rm_X10_differ : Room := { frames := 0, cells := 0, slots := 0, locals := 0 }
set_option maxHeartbeats 4000000 in
set_option maxRecDepth 100000 in
theorem c_X10_differ {l : Launch} {D : va_G} {B t0 : Nat} (hl9 : l.stackTraces = false) (S : jS) (X9 : jMem) (z : Nat → Prop) (a0 : Nat) (ha0 : kIn 0 358 a0 1008) (a1 : Nat) (ha1 : kIn 0 358 a1 1008) : jCf l D B t0 yX10_differ cX10_differ 3 (some .boolean) rm_X10_differ [.ref (B + a0), .ref (B + a1)] (memG 0 358 D B S X9) z (f_X10_differ S a0 a1) rvI (fun (S9 : Unit) M9 => M9 = memG 0 358 D B S X9) z := by
  refine jC_of hl9 (me_X10_differ).1 [(0, .ref (B + a0)), (1, .ref (B + a1))] ⟨by decide +kernel, Nat.le_of_ble_eq_true rfl⟩ rfl (fun κ hl hD hB hT X htab hin => ?_)
  subst hl hD hB hT
  have X : jX κ RX10 cX10_differ 3 (some .boolean) := X
  unfold f_X10_differ
  refine j_iconst X (0 : Int32) dX10_differ_0 (by rfl) ?_
  refine j_istore_n X [(2, .int (0 : Int32)), (0, .ref (kB κ + a0)), (1, .ref (kB κ + a1))] dX10_differ_1 rfl (by decide) rfl ?_
  refine j_lv [1, 2, 0] rfl ?_
  refine j_loop (fun (k : Int32 → Option (jR Unit)) => ∀ (x2 : Int32), J κ 3 rm_X10_differ (jQf κ rm_X10_differ rvI (fun (S9 : Unit) M9 => M9 = memG 0 358 (kD κ) (kB κ) S X9) z) (k x2) (memG 0 358 (kD κ) (kB κ) S X9) z 0 0 [(0, .ref (kB κ + a0)), (1, .ref (kB κ + a1)), (2, .int x2)] 2 []) (fun _ => j_none) (fun rec1 hrec1 => ?_) 1000 _
  intro x2
  refine j_iload_n X 2 rfl dX10_differ_2 rfl ?_
  refine j_bipush X (8 : Int32) dX10_differ_3 (by rfl) ?_
  refine j_icmp_ge X 25 dX10_differ_5 (by decide) ?_ ?_
  · refine j_iconst X (0 : Int32) dX10_differ_25 (by rfl) ?_
    exact j_zret X dX10_differ_26 rfl (fun _ h => h)
  · refine j_aload_n X 0 rfl dX10_differ_8 rfl ?_
    refine j_iload_n X 2 rfl dX10_differ_9 rfl ?_
    refine g_iald X 8 ha0 (by decide) dX10_differ_10 (fun h5 => ?_)
    refine j_aload_n X 1 rfl dX10_differ_11 rfl ?_
    refine j_iload_n X 2 rfl dX10_differ_12 rfl ?_
    refine g_iald X 8 ha1 (by decide) dX10_differ_13 (fun h4 => ?_)
    refine j_icmp_eq X 19 dX10_differ_14 (by decide) ?_ ?_
    · refine j_iincL X 2 (fun x3 => [(2, .int x3), (0, .ref (kB κ + a0)), (1, .ref (kB κ + a1))]) dX10_differ_19 rfl (by rfl) (by decide) (fun _ => rfl) (fun x3 => ?_)
      refine j_goto X 2 dX10_differ_22 (by decide) ?_
      refine j_lv [1, 2, 0] rfl ?_
      exact hrec1 x3
    · refine j_iconst X (1 : Int32) dX10_differ_17 (by rfl) ?_
      exact j_zret X dX10_differ_18 rfl (fun _ h => h)
def f_J6_bitCount_0f7a4 (p0 : Int32) : Option (jR Unit) := letE ((p0 - (((p0.toUInt32 >>> ((1 : Int32).toUInt32 &&& Int32.toUInt32 31)).toInt32) &&& (1431655765 : Int32)))) fun x1 => letE (((x1 &&& (858993459 : Int32)) + (((x1.toUInt32 >>> ((2 : Int32).toUInt32 &&& Int32.toUInt32 31)).toInt32) &&& (858993459 : Int32)))) fun x2 => letE (((x2 + ((x2.toUInt32 >>> ((4 : Int32).toUInt32 &&& Int32.toUInt32 31)).toInt32)) &&& (252645135 : Int32))) fun x3 => letE ((x3 + ((x3.toUInt32 >>> ((8 : Int32).toUInt32 &&& Int32.toUInt32 31)).toInt32))) fun x4 => letE ((x4 + ((x4.toUInt32 >>> ((16 : Int32).toUInt32 &&& Int32.toUInt32 31)).toInt32))) fun x5 => some (0, (x5 &&& (63 : Int32)), ())
abbrev rm_J6_bitCount_0f7a4 : Room := { frames := 0, cells := 0, slots := 0, locals := 0 }
set_option maxHeartbeats 4000000 in
set_option maxRecDepth 100000 in
theorem c_J6_bitCount_0f7a4 {l : Launch} {D : va_G} {B t0 : Nat} (hl9 : l.stackTraces = false) (M : jMem) (z : Nat → Prop) (p0 : Int32) : jCf l D B t0 yJ6_bitCount_0f7a4 cJ6_bitCount_0f7a4 1 (some .int) rm_J6_bitCount_0f7a4 [.int p0] M z (f_J6_bitCount_0f7a4 p0) rvI (fun (S9 : Unit) M9 => M9 = M) z := by
  refine jC_of hl9 (me_J6_bitCount_0f7a4).1 [(0, .int p0)] ⟨by decide +kernel, Nat.le_of_ble_eq_true rfl⟩ rfl (fun κ hl hD hB hT X htab hin => ?_)
  subst hl hD hB hT
  have X : jX κ RJ6 cJ6_bitCount_0f7a4 1 (some .int) := X
  unfold f_J6_bitCount_0f7a4
  refine j_iload_n X 0 rfl dJ6_bitCount_0f7a4_0 rfl ?_
  refine j_iload_n X 0 rfl dJ6_bitCount_0f7a4_1 rfl ?_
  refine j_iconst X (1 : Int32) dJ6_bitCount_0f7a4_2 (by rfl) ?_
  refine j_iushr X dJ6_bitCount_0f7a4_3 ?_
  refine j_ldcw X kc_J6_265 dJ6_bitCount_0f7a4_4 ?_
  refine j_iand X dJ6_bitCount_0f7a4_7 ?_
  refine j_isub X dJ6_bitCount_0f7a4_8 ?_
  refine j_letE (fun x1 => ?_)
  refine j_istore_n X [(0, .int x1)] dJ6_bitCount_0f7a4_9 rfl (by decide) rfl ?_
  refine j_iload_n X 0 rfl dJ6_bitCount_0f7a4_10 rfl ?_
  refine j_ldcw X kc_J6_266 dJ6_bitCount_0f7a4_11 ?_
  refine j_iand X dJ6_bitCount_0f7a4_14 ?_
  refine j_iload_n X 0 rfl dJ6_bitCount_0f7a4_15 rfl ?_
  refine j_iconst X (2 : Int32) dJ6_bitCount_0f7a4_16 (by rfl) ?_
  refine j_iushr X dJ6_bitCount_0f7a4_17 ?_
  refine j_ldcw X kc_J6_266 dJ6_bitCount_0f7a4_18 ?_
  refine j_iand X dJ6_bitCount_0f7a4_21 ?_
  refine j_iadd X dJ6_bitCount_0f7a4_22 ?_
  refine j_letE (fun x2 => ?_)
  refine j_istore_n X [(0, .int x2)] dJ6_bitCount_0f7a4_23 rfl (by decide) rfl ?_
  refine j_iload_n X 0 rfl dJ6_bitCount_0f7a4_24 rfl ?_
  refine j_iload_n X 0 rfl dJ6_bitCount_0f7a4_25 rfl ?_
  refine j_iconst X (4 : Int32) dJ6_bitCount_0f7a4_26 (by rfl) ?_
  refine j_iushr X dJ6_bitCount_0f7a4_27 ?_
  refine j_iadd X dJ6_bitCount_0f7a4_28 ?_
  refine j_ldcw X kc_J6_267 dJ6_bitCount_0f7a4_29 ?_
  refine j_iand X dJ6_bitCount_0f7a4_32 ?_
  refine j_letE (fun x3 => ?_)
  refine j_istore_n X [(0, .int x3)] dJ6_bitCount_0f7a4_33 rfl (by decide) rfl ?_
  refine j_iload_n X 0 rfl dJ6_bitCount_0f7a4_34 rfl ?_
  refine j_iload_n X 0 rfl dJ6_bitCount_0f7a4_35 rfl ?_
  refine j_bipush X (8 : Int32) dJ6_bitCount_0f7a4_36 (by rfl) ?_
  refine j_iushr X dJ6_bitCount_0f7a4_38 ?_
  refine j_iadd X dJ6_bitCount_0f7a4_39 ?_
  refine j_letE (fun x4 => ?_)
  refine j_istore_n X [(0, .int x4)] dJ6_bitCount_0f7a4_40 rfl (by decide) rfl ?_
  refine j_iload_n X 0 rfl dJ6_bitCount_0f7a4_41 rfl ?_
  refine j_iload_n X 0 rfl dJ6_bitCount_0f7a4_42 rfl ?_
  refine j_bipush X (16 : Int32) dJ6_bitCount_0f7a4_43 (by rfl) ?_
  refine j_iushr X dJ6_bitCount_0f7a4_45 ?_
  refine j_iadd X dJ6_bitCount_0f7a4_46 ?_
  refine j_letE (fun x5 => ?_)
  refine j_istore_n X [(0, .int x5)] dJ6_bitCount_0f7a4_47 rfl (by decide) rfl ?_
  refine j_iload_n X 0 rfl dJ6_bitCount_0f7a4_48 rfl ?_
  refine j_bipush X (63 : Int32) dJ6_bitCount_0f7a4_49 (by rfl) ?_
  refine j_iand X dJ6_bitCount_0f7a4_51 ?_
  exact j_iret X dJ6_bitCount_0f7a4_52 rfl (fun _ h => h)
def f_X8_signAt (S : jS) (b0 : Nat) (p1 : Int32) : Option (jR Unit) := joinK (fun (x4 : Int32) => some (0, x4, ())) (fun k1 => joinK (fun (_ : Unit) => k1 (0 : Int32)) (fun k2 => (if p1 < (0 : Int32) then k2 () else (if (S b0 1) ≤ p1 then k2 () else chk (inb p1 60) (k1 ((S (b0 + 1) p1.toNatClampNeg)))))))
abbrev rm_X8_signAt : Room := { frames := 0, cells := 0, slots := 0, locals := 0 }
set_option maxHeartbeats 4000000 in
set_option maxRecDepth 100000 in
theorem c_X8_signAt {l : Launch} {D : va_G} {B t0 : Nat} (hl9 : l.stackTraces = false) (S : jS) (X9 : jMem) (z : Nat → Prop) (b0 : Nat) (hb0 : isText b0) (p1 : Int32) : jCf l D B t0 yX8_signAt cX8_signAt 2 (some .int) rm_X8_signAt [.ref (B + b0), .int p1] (memG 0 358 D B S X9) z (f_X8_signAt S b0 p1) rvI (fun (S9 : Unit) M9 => M9 = memG 0 358 D B S X9) z := by
  refine jC_of hl9 (me_X8_signAt).1 [(0, .ref (B + b0)), (1, .int p1)] ⟨by decide +kernel, Nat.le_of_ble_eq_true rfl⟩ rfl (fun κ hl hD hB hT X htab hin => ?_)
  subst hl hD hB hT
  have X : jX κ RX8 cX8_signAt 2 (some .int) := X
  unfold f_X8_signAt
  refine j_iload_n X 1 rfl dX8_signAt_0 rfl ?_
  refine j_join (fun k1 => ∀ (x4 : Int32), J κ 2 rm_X8_signAt (jQf κ rm_X8_signAt rvI (fun (S9 : Unit) M9 => M9 = memG 0 358 (kD κ) (kB κ) S X9) z) (k1 x4) (memG 0 358 (kD κ) (kB κ) S X9) z 0 0 [] 22 [.int x4]) ?_ (fun k1 hk1 => ?_)
  · intro x4
    exact j_iret X dX8_signAt_22 rfl (fun _ h => h)
  · refine j_join (fun k2 => ∀ (_ : Unit), J κ 2 rm_X8_signAt (jQf κ rm_X8_signAt rvI (fun (S9 : Unit) M9 => M9 = memG 0 358 (kD κ) (kB κ) S X9) z) (k2 ()) (memG 0 358 (kD κ) (kB κ) S X9) z 0 0 [] 21 []) ?_ (fun k2 hk2 => ?_)
    · intro _
      refine j_iconst X (0 : Int32) dX8_signAt_21 (by rfl) ?_
      exact hk1 (0 : Int32)
    · refine j_if_lt X 21 dX8_signAt_1 (by decide) ?_ ?_
      · refine j_lv [] rfl ?_
        exact hk2 ()
      · refine j_iload_n X 1 rfl dX8_signAt_4 rfl ?_
        refine j_aload_n X 0 rfl dX8_signAt_5 rfl ?_
        refine g_getf X 1 (kText hb0).1 cf_X8 (by decide) fl_X8_15 dX8_signAt_6 rfl rfl ?_
        refine j_icmp_ge X 21 dX8_signAt_9 (by decide) ?_ ?_
        · refine j_lv [] rfl ?_
          exact hk2 ()
        · refine j_aload_n X 0 rfl dX8_signAt_12 rfl ?_
          refine g_getf X 0 (kText hb0).1 cf_X8 (by decide) fl_X8_9 dX8_signAt_13 rfl rfl ?_
          refine j_iload_n X 1 rfl dX8_signAt_16 rfl ?_
          refine g_cald X 60 (kText hb0).2 (by decide) dX8_signAt_17 (fun h3 => ?_)
          refine j_goto X 22 dX8_signAt_18 (by decide) ?_
          refine j_lv [] rfl ?_
          exact hk1 ((S (b0 + 1) p1.toNatClampNeg))
def f_X8_digitAt (S : jS) (b0 : Nat) (p1 : Int32) : Option (jR Unit) := jbin0 (f_X8_signAt S b0 p1) (fun v1 _ => letE ((v1 - (48 : Int32))) fun x2 => joinK (fun (x5 : Int32) => some (0, x5, ())) (fun k3 => joinK (fun (_ : Unit) => k3 (-1 : Int32)) (fun k4 => (if x2 < (0 : Int32) then k4 () else (if (9 : Int32) < x2 then k4 () else k3 x2)))))
abbrev rm_X8_digitAt : Room := { frames := 1, cells := 0, slots := 0, locals := 21 }
set_option maxHeartbeats 4000000 in
set_option maxRecDepth 100000 in
theorem c_X8_digitAt {l : Launch} {D : va_G} {B t0 : Nat} (hl9 : l.stackTraces = false) (S : jS) (X9 : jMem) (z : Nat → Prop) (b0 : Nat) (hb0 : isText b0) (p1 : Int32) : jCf l D B t0 yX8_digitAt cX8_digitAt 3 (some .int) rm_X8_digitAt [.ref (B + b0), .int p1] (memG 0 358 D B S X9) z (f_X8_digitAt S b0 p1) rvI (fun (S9 : Unit) M9 => M9 = memG 0 358 D B S X9) z := by
  refine jC_of hl9 (me_X8_digitAt).1 [(0, .ref (B + b0)), (1, .int p1)] ⟨by decide +kernel, Nat.le_of_ble_eq_true rfl⟩ rfl (fun κ hl hD hB hT X htab hin => ?_)
  subst hl hD hB hT
  have X : jX κ RX8 cX8_digitAt 3 (some .int) := X
  unfold f_X8_digitAt
  refine j_aload_n X 0 rfl dX8_digitAt_0 rfl ?_
  refine j_iload_n X 1 rfl dX8_digitAt_1 rfl ?_
  refine j_call0V X 0 0 (c_X8_signAt X.tr S X9 z b0 hb0 p1) me_X8_signAt ml_X8_19 iv_X8_signAt cf_X8 dX8_digitAt_2 (memG_at (kText hb0).1) (rest := []) rfl rfl (by decide) (by decide) (Nat.le_of_ble_eq_true rfl) (fun v1 u8 M7 hM6 => ?_)
  subst hM6
  refine j_bipush X (48 : Int32) dX8_digitAt_5 (by rfl) ?_
  refine j_isub X dX8_digitAt_7 ?_
  refine j_letE (fun x2 => ?_)
  refine j_istore_n X [(2, .int x2), (0, .ref (kB κ + b0)), (1, .int p1)] dX8_digitAt_8 rfl (by decide) rfl ?_
  refine j_iload_n X 0 rfl dX8_digitAt_9 rfl ?_
  refine j_join (fun k3 => ∀ (x5 : Int32), J κ 3 rm_X8_digitAt (jQf κ rm_X8_digitAt rvI (fun (S9 : Unit) M9 => M9 = memG 0 358 (kD κ) (kB κ) S X9) z) (k3 x5) (memG 0 358 (kD κ) (kB κ) S X9) z 0 0 [] 24 [.int x5]) ?_ (fun k3 hk3 => ?_)
  · intro x5
    exact j_iret X dX8_digitAt_24 rfl (fun _ h => h)
  · refine j_join (fun k4 => ∀ (_ : Unit), J κ 3 rm_X8_digitAt (jQf κ rm_X8_digitAt rvI (fun (S9 : Unit) M9 => M9 = memG 0 358 (kD κ) (kB κ) S X9) z) (k4 ()) (memG 0 358 (kD κ) (kB κ) S X9) z 0 0 [] 23 []) ?_ (fun k4 hk4 => ?_)
    · intro _
      refine j_iconst X (-1 : Int32) dX8_digitAt_23 (by rfl) ?_
      exact hk3 (-1 : Int32)
    · refine j_if_lt X 23 dX8_digitAt_10 (by decide) ?_ ?_
      · refine j_lv [] rfl ?_
        exact hk4 ()
      · refine j_iload_n X 0 rfl dX8_digitAt_13 rfl ?_
        refine j_bipush X (9 : Int32) dX8_digitAt_14 (by rfl) ?_
        refine j_icmp_gt X 23 dX8_digitAt_16 (by decide) ?_ ?_
        · refine j_lv [] rfl ?_
          exact hk4 ()
        · refine j_iload_n X 0 rfl dX8_digitAt_19 rfl ?_
          refine j_goto X 24 dX8_digitAt_20 (by decide) ?_
          refine j_lv [] rfl ?_
          exact hk3 x2
def f_X8_numberAt (S : jS) (b0 : Nat) (p1 : Int32) : Option (jR Unit) := jbin0 (f_X8_digitAt S b0 p1) (fun v1 _ => jbin0 (f_X8_digitAt S b0 ((p1 + (1 : Int32)))) (fun v2 _ => joinK (fun (x4 : Int32) => some (0, x4, ())) (fun k3 => (if v2 = (-1 : Int32) then k3 v1 else k3 ((((10 : Int32) * v1) + v2))))))
abbrev rm_X8_numberAt : Room := { frames := 2, cells := 0, slots := 0, locals := 43 }
set_option maxHeartbeats 4000000 in
set_option maxRecDepth 100000 in
theorem c_X8_numberAt {l : Launch} {D : va_G} {B t0 : Nat} (hl9 : l.stackTraces = false) (S : jS) (X9 : jMem) (z : Nat → Prop) (b0 : Nat) (hb0 : isText b0) (p1 : Int32) : jCf l D B t0 yX8_numberAt cX8_numberAt 4 (some .int) rm_X8_numberAt [.ref (B + b0), .int p1] (memG 0 358 D B S X9) z (f_X8_numberAt S b0 p1) rvI (fun (S9 : Unit) M9 => M9 = memG 0 358 D B S X9) z := by
  refine jC_of hl9 (me_X8_numberAt).1 [(0, .ref (B + b0)), (1, .int p1)] ⟨by decide +kernel, Nat.le_of_ble_eq_true rfl⟩ rfl (fun κ hl hD hB hT X htab hin => ?_)
  subst hl hD hB hT
  have X : jX κ RX8 cX8_numberAt 4 (some .int) := X
  unfold f_X8_numberAt
  refine j_aload_n X 0 rfl dX8_numberAt_0 rfl ?_
  refine j_iload_n X 1 rfl dX8_numberAt_1 rfl ?_
  refine j_call0V X 0 0 (c_X8_digitAt X.tr S X9 z b0 hb0 p1) me_X8_digitAt ml_X8_23 iv_X8_digitAt cf_X8 dX8_numberAt_2 (memG_at (kText hb0).1) (rest := []) rfl rfl (by decide) (by decide) (Nat.le_of_ble_eq_true rfl) (fun v1 u10 M9 hM8 => ?_)
  subst hM8
  refine j_istore_n X [(2, .int v1), (0, .ref (kB κ + b0)), (1, .int p1)] dX8_numberAt_5 rfl (by decide) rfl ?_
  refine j_aload_n X 1 rfl dX8_numberAt_6 rfl ?_
  refine j_iload_n X 2 rfl dX8_numberAt_7 rfl ?_
  refine j_iconst X (1 : Int32) dX8_numberAt_8 (by rfl) ?_
  refine j_iadd X dX8_numberAt_9 ?_
  refine j_call0V X 0 0 (c_X8_digitAt X.tr S X9 z b0 hb0 ((p1 + (1 : Int32)))) me_X8_digitAt ml_X8_23 iv_X8_digitAt cf_X8 dX8_numberAt_10 (memG_at (kText hb0).1) (rest := []) rfl rfl (by decide) (by decide) (Nat.le_of_ble_eq_true rfl) (fun v2 u7 M6 hM5 => ?_)
  subst hM5
  refine j_istore_n X [(3, .int v2), (2, .int v1), (0, .ref (kB κ + b0)), (1, .int p1)] dX8_numberAt_13 rfl (by decide) rfl ?_
  refine j_iload_n X 0 rfl dX8_numberAt_14 rfl ?_
  refine j_iconst X (-1 : Int32) dX8_numberAt_15 (by rfl) ?_
  refine j_join (fun k3 => ∀ (x4 : Int32), J κ 4 rm_X8_numberAt (jQf κ rm_X8_numberAt rvI (fun (S9 : Unit) M9 => M9 = memG 0 358 (kD κ) (kB κ) S X9) z) (k3 x4) (memG 0 358 (kD κ) (kB κ) S X9) z 0 0 [] 29 [.int x4]) ?_ (fun k3 hk3 => ?_)
  · intro x4
    exact j_iret X dX8_numberAt_29 rfl (fun _ h => h)
  · refine j_icmp_ne X 23 dX8_numberAt_16 (by decide) ?_ ?_
    · refine j_iload_n X 1 rfl dX8_numberAt_19 rfl ?_
      refine j_goto X 29 dX8_numberAt_20 (by decide) ?_
      refine j_lv [] rfl ?_
      exact hk3 v1
    · refine j_bipush X (10 : Int32) dX8_numberAt_23 (by rfl) ?_
      refine j_iload_n X 1 rfl dX8_numberAt_25 rfl ?_
      refine j_imul X dX8_numberAt_26 ?_
      refine j_iload_n X 0 rfl dX8_numberAt_27 rfl ?_
      refine j_iadd X dX8_numberAt_28 ?_
      refine j_lv [] rfl ?_
      exact hk3 ((((10 : Int32) * v1) + v2))
def f_X8_append (S : jS) (b0 : Nat) (p1 : Int32) : Option (jR jS) := joinK (fun (S5 : jS) => some (0, (0 : Int32), S5)) (fun k1 => (if (60 : Int32) ≤ (S b0 1) then k1 S else chk (inb (S b0 1) 60) (letE (jset S (b0 + 1) (S b0 1).toNatClampNeg (vp_nar .char ((p1.toUInt32 % 65536).toInt32))) fun S2 => letE (jset S2 b0 1 (((S2 b0 1) + (1 : Int32)))) fun S3 => k1 S3)))
abbrev rm_X8_append : Room := { frames := 0, cells := 0, slots := 0, locals := 0 }
set_option maxHeartbeats 4000000 in
set_option maxRecDepth 100000 in
theorem c_X8_append {l : Launch} {D : va_G} {B t0 : Nat} (hl9 : l.stackTraces = false) (S : jS) (X9 : jMem) (z : Nat → Prop) (b0 : Nat) (hb0 : isText b0) (p1 : Int32) : jCf l D B t0 yX8_append cX8_append 2 none rm_X8_append [.ref (B + b0), .int p1] (memG 0 358 D B S X9) z (f_X8_append S b0 p1) rvV (fun S9 M9 => M9 = memG 0 358 D B S9 X9) z := by
  refine jC_of hl9 (me_X8_append).1 [(0, .ref (B + b0)), (1, .int p1)] ⟨by decide +kernel, Nat.le_of_ble_eq_true rfl⟩ rfl (fun κ hl hD hB hT X htab hin => ?_)
  subst hl hD hB hT
  have X : jX κ RX8 cX8_append 2 none := X
  unfold f_X8_append
  refine j_aload_n X 0 rfl dX8_append_0 rfl ?_
  refine g_getf X 1 (kText hb0).1 cf_X8 (by decide) fl_X8_15 dX8_append_1 rfl rfl ?_
  refine j_bipush X (60 : Int32) dX8_append_4 (by rfl) ?_
  refine j_join (fun k1 => ∀ (S5 : jS), J κ 2 rm_X8_append (jQf κ rm_X8_append rvV (fun S9 M9 => M9 = memG 0 358 (kD κ) (kB κ) S9 X9) z) (k1 S5) (memG 0 358 (kD κ) (kB κ) S5 X9) z 0 0 [] 30 []) ?_ (fun k1 hk1 => ?_)
  · intro S5
    exact j_vret X dX8_append_30 rfl (fun _ h => h)
  · refine j_icmp_ge X 30 dX8_append_6 (by decide) ?_ ?_
    · refine j_lv [] rfl ?_
      exact hk1 S
    · refine j_aload_n X 0 rfl dX8_append_9 rfl ?_
      refine g_getf X 0 (kText hb0).1 cf_X8 (by decide) fl_X8_9 dX8_append_10 rfl rfl ?_
      refine j_aload_n X 0 rfl dX8_append_13 rfl ?_
      refine g_getf X 1 (kText hb0).1 cf_X8 (by decide) fl_X8_15 dX8_append_14 rfl rfl ?_
      refine j_iload_n X 1 rfl dX8_append_17 rfl ?_
      refine j_i2c X dX8_append_18 ?_
      refine g_cast X 60 (kText hb0).2 (by decide) dX8_append_19 (fun h4 S2 => ?_)
      refine j_aload_n X 0 rfl dX8_append_20 rfl ?_
      refine j_dup X dX8_append_21 rfl ?_
      refine g_getf X 1 (kText hb0).1 cf_X8 (by decide) fl_X8_15 dX8_append_22 rfl rfl ?_
      refine j_iconst X (1 : Int32) dX8_append_25 (by rfl) ?_
      refine j_iadd X dX8_append_26 ?_
      refine g_putf X 1 (kText hb0).1 cf_X8 (by decide) fl_X8_15 dX8_append_27 rfl rfl rfl rfl (Nat.le_of_ble_eq_true rfl) rfl (fun S3 => ?_)
      refine j_lv [] rfl ?_
      exact hk1 S3
def f_X8_audiencesReferredTo (S : jS) (b0 : Nat) : Option (jR Unit) := loopK (fun (rec1 : Int32 → Int32 → Option (jR Unit)) (x2 : Int32) (x3 : Int32) => (if (S b0 1) ≤ x3 then some (0, x2, ()) else jbin0 (f_X8_digitAt S b0 ((x3 + (1 : Int32)))) (fun v4 _ => chk (inb x3 60) (joinK (fun (x10 : Int32) => letE (x3 + (1 : Int32)) fun x11 => rec1 x10 x11) (fun k5 => (if (S (b0 + 1) x3.toNatClampNeg) = (64 : Int32) then (if v4 = (-1 : Int32) then k5 x2 else jbin0 (f_X10_withBit x2 v4 (1 : Int32)) (fun v6 _ => k5 v6)) else k5 x2)))))) (fun _ _ => none) 1000 (0 : Int32) (0 : Int32)
abbrev rm_X8_audiencesReferredTo : Room := { frames := 2, cells := 0, slots := 0, locals := 43 }
set_option maxHeartbeats 4000000 in
set_option maxRecDepth 100000 in
theorem c_X8_audiencesReferredTo {l : Launch} {D : va_G} {B t0 : Nat} (hl9 : l.stackTraces = false) (S : jS) (X9 : jMem) (z : Nat → Prop) (b0 : Nat) (hb0 : isText b0) : jCf l D B t0 yX8_audiencesReferredTo cX8_audiencesReferredTo 4 (some .int) rm_X8_audiencesReferredTo [.ref (B + b0)] (memG 0 358 D B S X9) z (f_X8_audiencesReferredTo S b0) rvI (fun (S9 : Unit) M9 => M9 = memG 0 358 D B S X9) z := by
  refine jC_of hl9 (me_X8_audiencesReferredTo).1 [(0, .ref (B + b0))] ⟨by decide +kernel, Nat.le_of_ble_eq_true rfl⟩ rfl (fun κ hl hD hB hT X htab hin => ?_)
  subst hl hD hB hT
  have X : jX κ RX8 cX8_audiencesReferredTo 4 (some .int) := X
  unfold f_X8_audiencesReferredTo
  refine j_iconst X (0 : Int32) dX8_audiencesReferredTo_0 (by rfl) ?_
  refine j_istore_n X [(1, .int (0 : Int32)), (0, .ref (kB κ + b0))] dX8_audiencesReferredTo_1 rfl (by decide) rfl ?_
  refine j_iconst X (0 : Int32) dX8_audiencesReferredTo_2 (by rfl) ?_
  refine j_istore_n X [(2, .int (0 : Int32)), (1, .int (0 : Int32)), (0, .ref (kB κ + b0))] dX8_audiencesReferredTo_3 rfl (by decide) rfl ?_
  refine j_lv [2, 1, 0] rfl ?_
  refine j_loop (fun (k : Int32 → Int32 → Option (jR Unit)) => ∀ (x2 : Int32) (x3 : Int32), J κ 4 rm_X8_audiencesReferredTo (jQf κ rm_X8_audiencesReferredTo rvI (fun (S9 : Unit) M9 => M9 = memG 0 358 (kD κ) (kB κ) S X9) z) (k x2 x3) (memG 0 358 (kD κ) (kB κ) S X9) z 0 0 [(0, .ref (kB κ + b0)), (1, .int x2), (2, .int x3)] 4 []) (fun _ _ => j_none) (fun rec1 hrec1 => ?_) 1000 _ _
  intro x2 x3
  refine j_iload_n X 2 rfl dX8_audiencesReferredTo_4 rfl ?_
  refine j_aload_n X 0 rfl dX8_audiencesReferredTo_5 rfl ?_
  refine g_getf X 1 (kText hb0).1 cf_X8 (by decide) fl_X8_15 dX8_audiencesReferredTo_6 rfl rfl ?_
  refine j_icmp_ge X 49 dX8_audiencesReferredTo_9 (by decide) ?_ ?_
  · refine j_iload_n X 1 rfl dX8_audiencesReferredTo_49 rfl ?_
    exact j_iret X dX8_audiencesReferredTo_50 rfl (fun _ h => h)
  · refine j_aload_n X 0 rfl dX8_audiencesReferredTo_12 rfl ?_
    refine j_iload_n X 2 rfl dX8_audiencesReferredTo_13 rfl ?_
    refine j_iconst X (1 : Int32) dX8_audiencesReferredTo_14 (by rfl) ?_
    refine j_iadd X dX8_audiencesReferredTo_15 ?_
    refine j_call0V X 0 0 (c_X8_digitAt X.tr S X9 z b0 hb0 ((x3 + (1 : Int32)))) me_X8_digitAt ml_X8_23 iv_X8_digitAt cf_X8 dX8_audiencesReferredTo_16 (memG_at (kText hb0).1) (rest := []) rfl rfl (by decide) (by decide) (Nat.le_of_ble_eq_true rfl) (fun v4 u15 M14 hM13 => ?_)
    subst hM13
    refine j_istore_n X [(3, .int v4), (0, .ref (kB κ + b0)), (1, .int x2), (2, .int x3)] dX8_audiencesReferredTo_19 rfl (by decide) rfl ?_
    refine j_aload_n X 1 rfl dX8_audiencesReferredTo_20 rfl ?_
    refine g_getf X 0 (kText hb0).1 cf_X8 (by decide) fl_X8_9 dX8_audiencesReferredTo_21 rfl rfl ?_
    refine j_iload_n X 3 rfl dX8_audiencesReferredTo_24 rfl ?_
    refine g_cald X 60 (kText hb0).2 (by decide) dX8_audiencesReferredTo_25 (fun h12 => ?_)
    refine j_bipush X (64 : Int32) dX8_audiencesReferredTo_26 (by rfl) ?_
    refine j_join (fun k5 => ∀ (x10 : Int32), J κ 4 rm_X8_audiencesReferredTo (jQf κ rm_X8_audiencesReferredTo rvI (fun (S9 : Unit) M9 => M9 = memG 0 358 (kD κ) (kB κ) S X9) z) (k5 x10) (memG 0 358 (kD κ) (kB κ) S X9) z 0 0 [(0, .ref (kB κ + b0)), (1, .int x10), (2, .int x3)] 43 []) ?_ (fun k5 hk5 => ?_)
    · intro x10
      refine j_iincL X 2 (fun x11 => [(2, .int x11), (0, .ref (kB κ + b0)), (1, .int x10)]) dX8_audiencesReferredTo_43 rfl (by rfl) (by decide) (fun _ => rfl) (fun x11 => ?_)
      refine j_goto X 4 dX8_audiencesReferredTo_46 (by decide) ?_
      refine j_lv [1, 2, 0] rfl ?_
      exact hrec1 x10 x11
    · refine j_icmp_ne X 43 dX8_audiencesReferredTo_28 (by decide) ?_ ?_
      · refine j_iload_n X 0 rfl dX8_audiencesReferredTo_31 rfl ?_
        refine j_iconst X (-1 : Int32) dX8_audiencesReferredTo_32 (by rfl) ?_
        refine j_icmp_eq X 43 dX8_audiencesReferredTo_33 (by decide) ?_ ?_
        · refine j_lv [1, 2, 3] rfl ?_
          exact hk5 x2
        · refine j_iload_n X 2 rfl dX8_audiencesReferredTo_36 rfl ?_
          refine j_iload_n X 0 rfl dX8_audiencesReferredTo_37 rfl ?_
          refine j_iconst X (1 : Int32) dX8_audiencesReferredTo_38 (by rfl) ?_
          refine j_call0SN X 0 0 (c_X10_withBit X.tr (memG 0 358 (kD κ) (kB κ) S X9) z x2 v4 (1 : Int32)) me_X10_withBit mn_X8_32 st_X10_withBit dX8_audiencesReferredTo_39 (rest := []) rfl rfl (by decide) (by decide) (Nat.le_of_ble_eq_true rfl) (fun v6 u9 M8 hM7 => ?_)
          subst hM7
          refine j_istore_n X [(1, .int v6), (3, .int v4), (0, .ref (kB κ + b0)), (2, .int x3)] dX8_audiencesReferredTo_42 rfl (by decide) rfl ?_
          refine j_lv [2, 0, 3] rfl ?_
          exact hk5 v6
      · refine j_lv [1, 2, 3] rfl ?_
        exact hk5 x2
def f_X6_whoHasTag (S : jS) (p1 : Int32) : Option (jR Unit) := loopK (fun (rec1 : Int32 → Int32 → Option (jR Unit)) (x2 : Int32) (x3 : Int32) => (if (20 : Int32) ≤ x3 then some (0, x2, ()) else chk (inb x3 20) (jbin0 (f_X10_hasBit (S 23 x3.toNatClampNeg) p1) (fun v4 _ => jbin0 (f_X10_withBit x2 x3 v4) (fun v5 _ => letE (x3 + (1 : Int32)) fun x6 => rec1 v5 x6))))) (fun _ _ => none) 1000 (0 : Int32) (0 : Int32)
abbrev rm_X6_whoHasTag : Room := { frames := 1, cells := 0, slots := 0, locals := 22 }
set_option maxHeartbeats 4000000 in
set_option maxRecDepth 100000 in
theorem c_X6_whoHasTag {l : Launch} {D : va_G} {B t0 : Nat} (hl9 : l.stackTraces = false) (S : jS) (X9 : jMem) (z : Nat → Prop) (p1 : Int32) : jCf l D B t0 yX6_whoHasTag cX6_whoHasTag 4 (some .int) rm_X6_whoHasTag [.ref (B + 1), .int p1] (memG 0 358 D B S X9) z (f_X6_whoHasTag S p1) rvI (fun (S9 : Unit) M9 => M9 = memG 0 358 D B S X9) z := by
  refine jC_of hl9 (me_X6_whoHasTag).1 [(0, .ref (B + 1)), (1, .int p1)] ⟨by decide +kernel, Nat.le_of_ble_eq_true rfl⟩ rfl (fun κ hl hD hB hT X htab hin => ?_)
  subst hl hD hB hT
  have X : jX κ RX6 cX6_whoHasTag 4 (some .int) := X
  unfold f_X6_whoHasTag
  refine j_iconst X (0 : Int32) dX6_whoHasTag_0 (by rfl) ?_
  refine j_istore_n X [(2, .int (0 : Int32)), (0, .ref (kB κ + 1)), (1, .int p1)] dX6_whoHasTag_1 rfl (by decide) rfl ?_
  refine j_iconst X (0 : Int32) dX6_whoHasTag_2 (by rfl) ?_
  refine j_istore_n X [(3, .int (0 : Int32)), (2, .int (0 : Int32)), (0, .ref (kB κ + 1)), (1, .int p1)] dX6_whoHasTag_3 rfl (by decide) rfl ?_
  refine j_lv [2, 3, 1, 0] rfl ?_
  refine j_loop (fun (k : Int32 → Int32 → Option (jR Unit)) => ∀ (x2 : Int32) (x3 : Int32), J κ 4 rm_X6_whoHasTag (jQf κ rm_X6_whoHasTag rvI (fun (S9 : Unit) M9 => M9 = memG 0 358 (kD κ) (kB κ) S X9) z) (k x2 x3) (memG 0 358 (kD κ) (kB κ) S X9) z 0 0 [(0, .ref (kB κ + 1)), (1, .int p1), (2, .int x2), (3, .int x3)] 4 []) (fun _ _ => j_none) (fun rec1 hrec1 => ?_) 1000 _ _
  intro x2 x3
  refine j_iload_n X 3 rfl dX6_whoHasTag_4 rfl ?_
  refine j_bipush X (20 : Int32) dX6_whoHasTag_5 (by rfl) ?_
  refine j_icmp_ge X 32 dX6_whoHasTag_7 (by decide) ?_ ?_
  · refine j_iload_n X 2 rfl dX6_whoHasTag_32 rfl ?_
    exact j_iret X dX6_whoHasTag_33 rfl (fun _ h => h)
  · refine j_iload_n X 2 rfl dX6_whoHasTag_10 rfl ?_
    refine j_iload_n X 3 rfl dX6_whoHasTag_11 rfl ?_
    refine j_aload_n X 0 rfl dX6_whoHasTag_12 rfl ?_
    refine g_getf X 1 kf_1 cf_X6 (by decide) fl_X6_16 dX6_whoHasTag_13 rfl rfl ?_
    refine j_iload_n X 3 rfl dX6_whoHasTag_16 rfl ?_
    refine g_iald X 20 kf_23 (by decide) dX6_whoHasTag_17 (fun h13 => ?_)
    refine j_iload_n X 1 rfl dX6_whoHasTag_18 rfl ?_
    refine j_call0SN X 0 0 (c_X10_hasBit X.tr (memG 0 358 (kD κ) (kB κ) S X9) z (S 23 x3.toNatClampNeg) p1) me_X10_hasBit mn_X6_24 st_X10_hasBit dX6_whoHasTag_19 (rest := [.int x3, .int x2]) rfl rfl (by decide) (by decide) (Nat.le_of_ble_eq_true rfl) (fun v4 u12 M11 hM10 => ?_)
    subst hM10
    refine j_call0SN X 0 0 (c_X10_withBit X.tr (memG 0 358 (kD κ) (kB κ) S X9) z x2 x3 v4) me_X10_withBit mn_X6_20 st_X10_withBit dX6_whoHasTag_22 (rest := []) rfl rfl (by decide) (by decide) (Nat.le_of_ble_eq_true rfl) (fun v5 u9 M8 hM7 => ?_)
    subst hM7
    refine j_istore_n X [(2, .int v5), (0, .ref (kB κ + 1)), (1, .int p1), (3, .int x3)] dX6_whoHasTag_25 rfl (by decide) rfl ?_
    refine j_iincL X 3 (fun x6 => [(3, .int x6), (2, .int v5), (0, .ref (kB κ + 1)), (1, .int p1)]) dX6_whoHasTag_26 rfl (by rfl) (by decide) (fun _ => rfl) (fun x6 => ?_)
    refine j_goto X 4 dX6_whoHasTag_29 (by decide) ?_
    refine j_lv [2, 3, 1, 0] rfl ?_
    exact hrec1 v5 x6
def f_X6_whoCompares (S : jS) (p1 : Int32) (p2 : Int32) (p3 : Int32) : Option (jR Unit) := loopK (fun (rec1 : Int32 → Int32 → Option (jR Unit)) (x2 : Int32) (x3 : Int32) => (if (20 : Int32) ≤ x3 then some (0, x2, ()) else chk (inb x3 20) (chk (inb p1 3) (letE ((S (3 + x3.toNatClampNeg) p1.toNatClampNeg)) fun x5 => joinK (fun (x7 : Int32) => jbin0 (f_X10_withBit x2 x3 x7) (fun v8 _ => letE (x3 + (1 : Int32)) fun x9 => rec1 v8 x9)) (fun k6 => (if p2 = (61 : Int32) then (if x5 = p3 then k6 (1 : Int32) else k6 (0 : Int32)) else (if p2 = (60 : Int32) then (if p3 ≤ x5 then k6 (0 : Int32) else k6 (1 : Int32)) else (if x5 ≤ p3 then k6 (0 : Int32) else k6 (1 : Int32))))))))) (fun _ _ => none) 1000 (0 : Int32) (0 : Int32)
abbrev rm_X6_whoCompares : Room := { frames := 1, cells := 0, slots := 0, locals := 22 }
set_option maxHeartbeats 4000000 in
set_option maxRecDepth 100000 in
theorem c_X6_whoCompares {l : Launch} {D : va_G} {B t0 : Nat} (hl9 : l.stackTraces = false) (S : jS) (X9 : jMem) (z : Nat → Prop) (p1 : Int32) (p2 : Int32) (p3 : Int32) : jCf l D B t0 yX6_whoCompares cX6_whoCompares 8 (some .int) rm_X6_whoCompares [.ref (B + 1), .int p1, .int p2, .int p3] (memG 0 358 D B S X9) z (f_X6_whoCompares S p1 p2 p3) rvI (fun (S9 : Unit) M9 => M9 = memG 0 358 D B S X9) z := by
  refine jC_of hl9 (me_X6_whoCompares).1 [(0, .ref (B + 1)), (1, .int p1), (2, .int p2), (3, .int p3)] ⟨by decide +kernel, Nat.le_of_ble_eq_true rfl⟩ rfl (fun κ hl hD hB hT X htab hin => ?_)
  subst hl hD hB hT
  have X : jX κ RX6 cX6_whoCompares 8 (some .int) := X
  unfold f_X6_whoCompares
  refine j_iconst X (0 : Int32) dX6_whoCompares_0 (by rfl) ?_
  refine j_istore X [(4, .int (0 : Int32)), (0, .ref (kB κ + 1)), (1, .int p1), (2, .int p2), (3, .int p3)] dX6_whoCompares_1 (by decide) rfl ?_
  refine j_iconst X (0 : Int32) dX6_whoCompares_3 (by rfl) ?_
  refine j_istore X [(5, .int (0 : Int32)), (4, .int (0 : Int32)), (0, .ref (kB κ + 1)), (1, .int p1), (2, .int p2), (3, .int p3)] dX6_whoCompares_4 (by decide) rfl ?_
  refine j_lv [2, 3, 4, 5, 1, 0] rfl ?_
  refine j_loop (fun (k : Int32 → Int32 → Option (jR Unit)) => ∀ (x2 : Int32) (x3 : Int32), J κ 8 rm_X6_whoCompares (jQf κ rm_X6_whoCompares rvI (fun (S9 : Unit) M9 => M9 = memG 0 358 (kD κ) (kB κ) S X9) z) (k x2 x3) (memG 0 358 (kD κ) (kB κ) S X9) z 0 0 [(0, .ref (kB κ + 1)), (1, .int p1), (2, .int p2), (3, .int p3), (4, .int x2), (5, .int x3)] 6 []) (fun _ _ => j_none) (fun rec1 hrec1 => ?_) 1000 _ _
  intro x2 x3
  refine j_iload X 5 rfl dX6_whoCompares_6 ?_
  refine j_bipush X (20 : Int32) dX6_whoCompares_8 (by rfl) ?_
  refine j_icmp_ge X 94 dX6_whoCompares_10 (by decide) ?_ ?_
  · refine j_iload X 4 rfl dX6_whoCompares_94 ?_
    exact j_iret X dX6_whoCompares_96 rfl (fun _ h => h)
  · refine j_aload_n X 0 rfl dX6_whoCompares_13 rfl ?_
    refine g_getf X 0 kf_1 cf_X6 (by decide) fl_X6_11 dX6_whoCompares_14 rfl rfl ?_
    refine j_iload X 5 rfl dX6_whoCompares_17 ?_
    refine g_aald X 4 20 kf_2 rfl rfl dX6_whoCompares_19 rfl rfl (fun h4 => ?_)
    refine j_iload_n X 1 rfl dX6_whoCompares_20 rfl ?_
    refine g_iald X 3 (kAttr h4) (by decide) dX6_whoCompares_21 (fun h13 => ?_)
    refine j_letE (fun x5 => ?_)
    refine j_istore X [(6, .int x5), (0, .ref (kB κ + 1)), (1, .int p1), (2, .int p2), (3, .int p3), (4, .int x2), (5, .int x3)] dX6_whoCompares_22 (by decide) rfl ?_
    refine j_iload_n X 3 rfl dX6_whoCompares_24 rfl ?_
    refine j_bipush X (61 : Int32) dX6_whoCompares_25 (by rfl) ?_
    refine j_join (fun k6 => ∀ (x7 : Int32), J κ 8 rm_X6_whoCompares (jQf κ rm_X6_whoCompares rvI (fun (S9 : Unit) M9 => M9 = memG 0 358 (kD κ) (kB κ) S X9) z) (k6 x7) (memG 0 358 (kD κ) (kB κ) S X9) z 0 0 [(0, .ref (kB κ + 1)), (1, .int p1), (2, .int p2), (3, .int p3), (4, .int x2), (5, .int x3)] 75 [.int x7]) ?_ (fun k6 hk6 => ?_)
    · intro x7
      refine j_istore X [(7, .int x7), (0, .ref (kB κ + 1)), (1, .int p1), (2, .int p2), (3, .int p3), (4, .int x2), (5, .int x3)] dX6_whoCompares_75 (by decide) rfl ?_
      refine j_iload X 5 rfl dX6_whoCompares_77 ?_
      refine j_iload X 6 rfl dX6_whoCompares_79 ?_
      refine j_iload X 0 rfl dX6_whoCompares_81 ?_
      refine j_call0SN X 0 0 (c_X10_withBit X.tr (memG 0 358 (kD κ) (kB κ) S X9) z x2 x3 x7) me_X10_withBit mn_X6_20 st_X10_withBit dX6_whoCompares_83 (rest := []) rfl rfl (by decide) (by decide) (Nat.le_of_ble_eq_true rfl) (fun v8 u12 M11 hM10 => ?_)
      subst hM10
      refine j_istore X [(4, .int v8), (7, .int x7), (0, .ref (kB κ + 1)), (1, .int p1), (2, .int p2), (3, .int p3), (5, .int x3)] dX6_whoCompares_86 (by decide) rfl ?_
      refine j_iincL X 6 (fun x9 => [(5, .int x9), (4, .int v8), (7, .int x7), (0, .ref (kB κ + 1)), (1, .int p1), (2, .int p2), (3, .int p3)]) dX6_whoCompares_88 rfl (by rfl) (by decide) (fun _ => rfl) (fun x9 => ?_)
      refine j_goto X 6 dX6_whoCompares_91 (by decide) ?_
      refine j_lv [3, 4, 5, 6, 1, 0] rfl ?_
      exact hrec1 v8 x9
    · refine j_icmp_ne X 44 dX6_whoCompares_27 (by decide) ?_ ?_
      · refine j_iload X 0 rfl dX6_whoCompares_30 ?_
        refine j_iload_n X 4 rfl dX6_whoCompares_32 rfl ?_
        refine j_icmp_ne X 40 dX6_whoCompares_33 (by decide) ?_ ?_
        · refine j_iconst X (1 : Int32) dX6_whoCompares_36 (by rfl) ?_
          refine j_goto X 75 dX6_whoCompares_37 (by decide) ?_
          refine j_lv [1, 2, 3, 4, 5, 6] rfl ?_
          exact hk6 (1 : Int32)
        · refine j_iconst X (0 : Int32) dX6_whoCompares_40 (by rfl) ?_
          refine j_goto X 75 dX6_whoCompares_41 (by decide) ?_
          refine j_lv [1, 2, 3, 4, 5, 6] rfl ?_
          exact hk6 (0 : Int32)
      · refine j_iload_n X 3 rfl dX6_whoCompares_44 rfl ?_
        refine j_bipush X (60 : Int32) dX6_whoCompares_45 (by rfl) ?_
        refine j_icmp_ne X 64 dX6_whoCompares_47 (by decide) ?_ ?_
        · refine j_iload X 0 rfl dX6_whoCompares_50 ?_
          refine j_iload_n X 4 rfl dX6_whoCompares_52 rfl ?_
          refine j_icmp_ge X 60 dX6_whoCompares_53 (by decide) ?_ ?_
          · refine j_iconst X (0 : Int32) dX6_whoCompares_60 (by rfl) ?_
            refine j_goto X 75 dX6_whoCompares_61 (by decide) ?_
            refine j_lv [1, 2, 3, 4, 5, 6] rfl ?_
            exact hk6 (0 : Int32)
          · refine j_iconst X (1 : Int32) dX6_whoCompares_56 (by rfl) ?_
            refine j_goto X 75 dX6_whoCompares_57 (by decide) ?_
            refine j_lv [1, 2, 3, 4, 5, 6] rfl ?_
            exact hk6 (1 : Int32)
        · refine j_iload X 0 rfl dX6_whoCompares_64 ?_
          refine j_iload_n X 4 rfl dX6_whoCompares_66 rfl ?_
          refine j_icmp_le X 74 dX6_whoCompares_67 (by decide) ?_ ?_
          · refine j_iconst X (0 : Int32) dX6_whoCompares_74 (by rfl) ?_
            refine j_lv [1, 2, 3, 4, 5, 6] rfl ?_
            exact hk6 (0 : Int32)
          · refine j_iconst X (1 : Int32) dX6_whoCompares_70 (by rfl) ?_
            refine j_goto X 75 dX6_whoCompares_71 (by decide) ?_
            refine j_lv [1, 2, 3, 4, 5, 6] rfl ?_
            exact hk6 (1 : Int32)
def f_X2_addFactor (S : jS) (p1 : Int32) : Option (jR jS) := chk (inb (S 33 3) 9) (chk (inb (S 33 3) 9) (chk (inb (S 33 3) 9) (letE (jset S 35 (S 33 3).toNatClampNeg (((S 35 (S 33 3).toNatClampNeg) &&& (p1 ^^^ (S 36 (S 33 3).toNatClampNeg))))) fun S1 => chk (inb (S1 33 3) 9) (letE (jset S1 36 (S1 33 3).toNatClampNeg (0 : Int32)) fun S2 => some (0, (0 : Int32), S2)))))
abbrev rm_X2_addFactor : Room := { frames := 0, cells := 0, slots := 0, locals := 0 }
set_option maxHeartbeats 4000000 in
set_option maxRecDepth 100000 in
theorem c_X2_addFactor {l : Launch} {D : va_G} {B t0 : Nat} (hl9 : l.stackTraces = false) (S : jS) (X9 : jMem) (z : Nat → Prop) (p1 : Int32) : jCf l D B t0 yX2_addFactor cX2_addFactor 2 none rm_X2_addFactor [.ref (B + 33), .int p1] (memG 0 358 D B S X9) z (f_X2_addFactor S p1) rvV (fun S9 M9 => M9 = memG 0 358 D B S9 X9) z := by
  refine jC_of hl9 (me_X2_addFactor).1 [(0, .ref (B + 33)), (1, .int p1)] ⟨by decide +kernel, Nat.le_of_ble_eq_true rfl⟩ rfl (fun κ hl hD hB hT X htab hin => ?_)
  subst hl hD hB hT
  have X : jX κ RX2 cX2_addFactor 2 none := X
  unfold f_X2_addFactor
  refine j_aload_n X 0 rfl dX2_addFactor_0 rfl ?_
  refine g_getf X 1 kf_33 cf_X2 (by decide) fl_X2_15 dX2_addFactor_1 rfl rfl ?_
  refine j_aload_n X 0 rfl dX2_addFactor_4 rfl ?_
  refine g_getf X 3 kf_33 cf_X2 (by decide) fl_X2_27 dX2_addFactor_5 rfl rfl ?_
  refine j_dup2 X dX2_addFactor_8 rfl rfl ?_
  refine g_iald X 9 kf_35 (by decide) dX2_addFactor_9 (fun h6 => ?_)
  refine j_iload_n X 1 rfl dX2_addFactor_10 rfl ?_
  refine j_aload_n X 0 rfl dX2_addFactor_11 rfl ?_
  refine g_getf X 2 kf_33 cf_X2 (by decide) fl_X2_18 dX2_addFactor_12 rfl rfl ?_
  refine j_aload_n X 0 rfl dX2_addFactor_15 rfl ?_
  refine g_getf X 3 kf_33 cf_X2 (by decide) fl_X2_27 dX2_addFactor_16 rfl rfl ?_
  refine g_iald X 9 kf_36 (by decide) dX2_addFactor_19 (fun h5 => ?_)
  refine j_ixor X dX2_addFactor_20 ?_
  refine j_iand X dX2_addFactor_21 ?_
  refine g_iast X 9 kf_35 (by decide) dX2_addFactor_22 (fun h4 S1 => ?_)
  refine j_aload_n X 0 rfl dX2_addFactor_23 rfl ?_
  refine g_getf X 2 kf_33 cf_X2 (by decide) fl_X2_18 dX2_addFactor_24 rfl rfl ?_
  refine j_aload_n X 0 rfl dX2_addFactor_27 rfl ?_
  refine g_getf X 3 kf_33 cf_X2 (by decide) fl_X2_27 dX2_addFactor_28 rfl rfl ?_
  refine j_iconst X (0 : Int32) dX2_addFactor_31 (by rfl) ?_
  refine g_iast X 9 kf_36 (by decide) dX2_addFactor_32 (fun h3 S2 => ?_)
  exact j_vret X dX2_addFactor_33 rfl (fun _ h => h)
def f_X2_beginExpression (S : jS) : Option (jR jS) := chk (inb (S 33 3) 9) (letE (jset S 34 (S 33 3).toNatClampNeg (0 : Int32)) fun S1 => chk (inb (S1 33 3) 9) (letE (jset S1 35 (S1 33 3).toNatClampNeg (1048575 : Int32)) fun S2 => chk (inb (S2 33 3) 9) (letE (jset S2 36 (S2 33 3).toNatClampNeg (0 : Int32)) fun S3 => some (0, (0 : Int32), S3))))
abbrev rm_X2_beginExpression : Room := { frames := 0, cells := 0, slots := 0, locals := 0 }
set_option maxHeartbeats 4000000 in
set_option maxRecDepth 100000 in
theorem c_X2_beginExpression {l : Launch} {D : va_G} {B t0 : Nat} (hl9 : l.stackTraces = false) (S : jS) (X9 : jMem) (z : Nat → Prop) : jCf l D B t0 yX2_beginExpression cX2_beginExpression 1 none rm_X2_beginExpression [.ref (B + 33)] (memG 0 358 D B S X9) z (f_X2_beginExpression S) rvV (fun S9 M9 => M9 = memG 0 358 D B S9 X9) z := by
  refine jC_of hl9 (me_X2_beginExpression).1 [(0, .ref (B + 33))] ⟨by decide +kernel, Nat.le_of_ble_eq_true rfl⟩ rfl (fun κ hl hD hB hT X htab hin => ?_)
  subst hl hD hB hT
  have X : jX κ RX2 cX2_beginExpression 1 none := X
  unfold f_X2_beginExpression
  refine j_aload_n X 0 rfl dX2_beginExpression_0 rfl ?_
  refine g_getf X 0 kf_33 cf_X2 (by decide) fl_X2_9 dX2_beginExpression_1 rfl rfl ?_
  refine j_aload_n X 0 rfl dX2_beginExpression_4 rfl ?_
  refine g_getf X 3 kf_33 cf_X2 (by decide) fl_X2_27 dX2_beginExpression_5 rfl rfl ?_
  refine j_iconst X (0 : Int32) dX2_beginExpression_8 (by rfl) ?_
  refine g_iast X 9 kf_34 (by decide) dX2_beginExpression_9 (fun h6 S1 => ?_)
  refine j_aload_n X 0 rfl dX2_beginExpression_10 rfl ?_
  refine g_getf X 1 kf_33 cf_X2 (by decide) fl_X2_15 dX2_beginExpression_11 rfl rfl ?_
  refine j_aload_n X 0 rfl dX2_beginExpression_14 rfl ?_
  refine g_getf X 3 kf_33 cf_X2 (by decide) fl_X2_27 dX2_beginExpression_15 rfl rfl ?_
  refine j_ldc X kc_X2_41 dX2_beginExpression_18 ?_
  refine g_iast X 9 kf_35 (by decide) dX2_beginExpression_20 (fun h5 S2 => ?_)
  refine j_aload_n X 0 rfl dX2_beginExpression_21 rfl ?_
  refine g_getf X 2 kf_33 cf_X2 (by decide) fl_X2_18 dX2_beginExpression_22 rfl rfl ?_
  refine j_aload_n X 0 rfl dX2_beginExpression_25 rfl ?_
  refine g_getf X 3 kf_33 cf_X2 (by decide) fl_X2_27 dX2_beginExpression_26 rfl rfl ?_
  refine j_iconst X (0 : Int32) dX2_beginExpression_29 (by rfl) ?_
  refine g_iast X 9 kf_36 (by decide) dX2_beginExpression_30 (fun h4 S3 => ?_)
  exact j_vret X dX2_beginExpression_31 rfl (fun _ h => h)
def f_X2_whoIsIn (S : jS) (p1 : Int32) (a2 : Nat) : Option (jR Unit) := joinK (fun (x4 : Int32) => some (0, x4, ())) (fun k1 => joinK (fun (_ : Unit) => k1 (0 : Int32)) (fun k2 => (if p1 < (0 : Int32) then k2 () else (if (6 : Int32) ≤ p1 then k2 () else chk (inb p1 6) (k1 (S a2 p1.toNatClampNeg))))))
abbrev rm_X2_whoIsIn : Room := { frames := 0, cells := 0, slots := 0, locals := 0 }
set_option maxHeartbeats 4000000 in
set_option maxRecDepth 100000 in
theorem c_X2_whoIsIn {l : Launch} {D : va_G} {B t0 : Nat} (hl9 : l.stackTraces = false) (S : jS) (X9 : jMem) (z : Nat → Prop) (p1 : Int32) (a2 : Nat) (ha2 : kIn 0 358 a2 1006) : jCf l D B t0 yX2_whoIsIn cX2_whoIsIn 3 (some .int) rm_X2_whoIsIn [.ref (B + 33), .int p1, .ref (B + a2)] (memG 0 358 D B S X9) z (f_X2_whoIsIn S p1 a2) rvI (fun (S9 : Unit) M9 => M9 = memG 0 358 D B S X9) z := by
  refine jC_of hl9 (me_X2_whoIsIn).1 [(0, .ref (B + 33)), (1, .int p1), (2, .ref (B + a2))] ⟨by decide +kernel, Nat.le_of_ble_eq_true rfl⟩ rfl (fun κ hl hD hB hT X htab hin => ?_)
  subst hl hD hB hT
  have X : jX κ RX2 cX2_whoIsIn 3 (some .int) := X
  unfold f_X2_whoIsIn
  refine j_iload_n X 1 rfl dX2_whoIsIn_0 rfl ?_
  refine j_join (fun k1 => ∀ (x4 : Int32), J κ 3 rm_X2_whoIsIn (jQf κ rm_X2_whoIsIn rvI (fun (S9 : Unit) M9 => M9 = memG 0 358 (kD κ) (kB κ) S X9) z) (k1 x4) (memG 0 358 (kD κ) (kB κ) S X9) z 0 0 [] 17 [.int x4]) ?_ (fun k1 hk1 => ?_)
  · intro x4
    exact j_iret X dX2_whoIsIn_17 rfl (fun _ h => h)
  · refine j_join (fun k2 => ∀ (_ : Unit), J κ 3 rm_X2_whoIsIn (jQf κ rm_X2_whoIsIn rvI (fun (S9 : Unit) M9 => M9 = memG 0 358 (kD κ) (kB κ) S X9) z) (k2 ()) (memG 0 358 (kD κ) (kB κ) S X9) z 0 0 [] 16 []) ?_ (fun k2 hk2 => ?_)
    · intro _
      refine j_iconst X (0 : Int32) dX2_whoIsIn_16 (by rfl) ?_
      exact hk1 (0 : Int32)
    · refine j_if_lt X 16 dX2_whoIsIn_1 (by decide) ?_ ?_
      · refine j_lv [] rfl ?_
        exact hk2 ()
      · refine j_iload_n X 1 rfl dX2_whoIsIn_4 rfl ?_
        refine j_bipush X (6 : Int32) dX2_whoIsIn_5 (by rfl) ?_
        refine j_icmp_ge X 16 dX2_whoIsIn_7 (by decide) ?_ ?_
        · refine j_lv [] rfl ?_
          exact hk2 ()
        · refine j_aload_n X 2 rfl dX2_whoIsIn_10 rfl ?_
          refine j_iload_n X 1 rfl dX2_whoIsIn_11 rfl ?_
          refine g_iald X 6 ha2 (by decide) dX2_whoIsIn_12 (fun h3 => ?_)
          refine j_goto X 17 dX2_whoIsIn_13 (by decide) ?_
          refine j_lv [] rfl ?_
          exact hk1 (S a2 p1.toNatClampNeg)
def f_X5_addHolder (S : jS) (b0 : Nat) (p1 : Int32) (p2 : Int32) (p3 : Int32) : Option (jR jS) := chk (inb p2 8) (joinK (fun (S4 : jS) => chk (inb p2 8) (jbin0 (f_X10_withBit ((S4 (b0 + 10) p2.toNatClampNeg)) p1 (1 : Int32)) (fun v5 _ => chk (inb p2 8) (letE (jset S4 (b0 + 10) p2.toNatClampNeg v5) fun S6 => some (0, (0 : Int32), S6))))) (fun k1 => (if (S (b0 + 10) p2.toNatClampNeg) = (0 : Int32) then chk (inb p2 8) (letE (jset S (b0 + 11) p2.toNatClampNeg p3) fun S2 => k1 S2) else k1 S)))
abbrev rm_X5_addHolder : Room := { frames := 1, cells := 0, slots := 0, locals := 22 }
set_option maxHeartbeats 4000000 in
set_option maxRecDepth 100000 in
theorem c_X5_addHolder {l : Launch} {D : va_G} {B t0 : Nat} (hl9 : l.stackTraces = false) (S : jS) (X9 : jMem) (z : Nat → Prop) (b0 : Nat) (hb0 : isPast b0) (p1 : Int32) (p2 : Int32) (p3 : Int32) : jCf l D B t0 yX5_addHolder cX5_addHolder 4 none rm_X5_addHolder [.ref (B + b0), .int p1, .int p2, .int p3] (memG 0 358 D B S X9) z (f_X5_addHolder S b0 p1 p2 p3) rvV (fun S9 M9 => M9 = memG 0 358 D B S9 X9) z := by
  refine jC_of hl9 (me_X5_addHolder).1 [(0, .ref (B + b0)), (1, .int p1), (2, .int p2), (3, .int p3)] ⟨by decide +kernel, Nat.le_of_ble_eq_true rfl⟩ rfl (fun κ hl hD hB hT X htab hin => ?_)
  subst hl hD hB hT
  have X : jX κ RX5 cX5_addHolder 4 none := X
  unfold f_X5_addHolder
  refine j_aload_n X 0 rfl dX5_addHolder_0 rfl ?_
  refine g_getf X 3 (kPast hb0).1 cf_X5 (by decide) fl_X5_23 dX5_addHolder_1 rfl rfl ?_
  refine j_iload_n X 2 rfl dX5_addHolder_4 rfl ?_
  refine g_iald X 8 (kPast hb0).2.2.2.2.1 (by decide) dX5_addHolder_5 (fun h12 => ?_)
  refine j_join (fun k1 => ∀ (S4 : jS), J κ 4 rm_X5_addHolder (jQf κ rm_X5_addHolder rvV (fun S9 M9 => M9 = memG 0 358 (kD κ) (kB κ) S9 X9) z) (k1 S4) (memG 0 358 (kD κ) (kB κ) S4 X9) z 0 0 [(0, .ref (kB κ + b0)), (1, .int p1), (2, .int p2)] 16 []) ?_ (fun k1 hk1 => ?_)
  · intro S4
    refine j_aload_n X 0 rfl dX5_addHolder_16 rfl ?_
    refine g_getf X 3 (kPast hb0).1 cf_X5 (by decide) fl_X5_23 dX5_addHolder_17 rfl rfl ?_
    refine j_iload_n X 2 rfl dX5_addHolder_20 rfl ?_
    refine j_aload_n X 0 rfl dX5_addHolder_21 rfl ?_
    refine g_getf X 3 (kPast hb0).1 cf_X5 (by decide) fl_X5_23 dX5_addHolder_22 rfl rfl ?_
    refine j_iload_n X 2 rfl dX5_addHolder_25 rfl ?_
    refine g_iald X 8 (kPast hb0).2.2.2.2.1 (by decide) dX5_addHolder_26 (fun h11 => ?_)
    refine j_iload_n X 1 rfl dX5_addHolder_27 rfl ?_
    refine j_iconst X (1 : Int32) dX5_addHolder_28 (by rfl) ?_
    refine j_call0SN X 0 0 (c_X10_withBit X.tr (memG 0 358 (kD κ) (kB κ) S4 X9) z ((S4 (b0 + 10) p2.toNatClampNeg)) p1 (1 : Int32)) me_X10_withBit mn_X5_65 st_X10_withBit dX5_addHolder_29 (rest := [.int p2, .ref (kB κ + (b0 + 10))]) rfl rfl (by decide) (by decide) (Nat.le_of_ble_eq_true rfl) (fun v5 u10 M9 hM8 => ?_)
    subst hM8
    refine g_iast X 8 (kPast hb0).2.2.2.2.1 (by decide) dX5_addHolder_32 (fun h7 S6 => ?_)
    exact j_vret X dX5_addHolder_33 rfl (fun _ h => h)
  · refine j_if_ne X 16 dX5_addHolder_6 (by decide) ?_ ?_
    · refine j_aload_n X 0 rfl dX5_addHolder_9 rfl ?_
      refine g_getf X 4 (kPast hb0).1 cf_X5 (by decide) fl_X5_26 dX5_addHolder_10 rfl rfl ?_
      refine j_iload_n X 2 rfl dX5_addHolder_13 rfl ?_
      refine j_iload_n X 3 rfl dX5_addHolder_14 rfl ?_
      refine g_iast X 8 (kPast hb0).2.2.2.2.2.1 (by decide) dX5_addHolder_15 (fun h3 S2 => ?_)
      refine j_lv [0, 1, 2] rfl ?_
      exact hk1 S2
    · refine j_lv [0, 1, 2] rfl ?_
      exact hk1 S
end GEN
