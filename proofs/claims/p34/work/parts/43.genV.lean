section GEN
def f_L_low (p0 : Int32) (p1 : Int32) : Option (jR Unit) := chk (!decide (p1 = 0)) (some (0, ((p0 &&& (2147483647 : Int32)) - (p0 &&& (2147483647 : Int32)) / p1 * p1), ()))
abbrev rm_L_low : Room := { frames := 0, cells := 0, slots := 0, locals := 0 }
set_option maxHeartbeats 4000000 in
set_option maxRecDepth 100000 in
theorem c_L_low {l : Launch} {D : va_G} {B t0 : Nat} (hl9 : l.stackTraces = false) (M : jMem) (z : Nat → Prop) (p0 : Int32) (p1 : Int32) : jCf l D B t0 yL_low cL_low 2 (some .int) rm_L_low [.int p0, .int p1] M z (f_L_low p0 p1) rvI (fun (S9 : Unit) M9 => M9 = M) z := by
  refine jC_of hl9 (me_L_low).1 [(0, .int p0), (1, .int p1)] ⟨by decide +kernel, Nat.le_of_ble_eq_true rfl⟩ rfl (fun κ hl hD hB hT X htab hin => ?_)
  subst hl hD hB hT
  have X : jX κ RL cL_low 2 (some .int) := X
  unfold f_L_low
  refine j_iload_n X 0 rfl dL_low_0 rfl ?_
  refine j_ldc X kc_L_7 dL_low_1 ?_
  refine j_iand X dL_low_3 ?_
  refine j_iload_n X 1 rfl dL_low_4 rfl ?_
  refine j_chk (fun hne => ?_)
  refine j_irem X (by simpa using hne) dL_low_5 ?_
  exact j_iret X dL_low_6 rfl (fun _ h => h)
def f_L_typeTest (S : jS) (p1 : Int32) (p2 : Int32) : Option (jR jS) := jbin0 (f_X10_erase S p1 (1 : Int32)) (fun v1 S2 => (if v1 ≤ (40 : Int32) then joinK (fun (S24 : jS) (x25 : Int32) => jbin0 (f_L_low ((p2 >>> ((1 : Int32) &&& 31))) (6 : Int32)) (fun v26 _ => jbin0 (f_L_low ((p2 >>> ((4 : Int32) &&& 31))) (4 : Int32)) (fun v27 _ => joinK (fun (S33 : jS) (x34 : Int32) => (if (3 : Int32) ≤ v26 then joinK (fun (S44 : jS) (x45 : Int32) => joinK (fun (x51 : Int32) => jbin0 (f_X10_type S44 p1 x51) (fun v52 S53 => some (0, v52, S53))) (fun k46 => (if v26 = (5 : Int32) then k46 (42 : Int32) else jbin0 (f_L_low ((p2 >>> ((8 : Int32) &&& 31))) (6 : Int32)) (fun v47 _ => k46 (((48 : Int32) + v47)))))) (fun k35 => (if v26 = (3 : Int32) then jbin0 (f_X10_type S33 p1 (116 : Int32)) (fun v40 S41 => k35 S41 v40) else (if v26 = (4 : Int32) then jbin0 (f_X10_type S33 p1 (64 : Int32)) (fun v36 S37 => k35 S37 v36) else k35 S33 x34))) else joinK (fun (x57 : Int32) => jbin0 (f_X10_type S33 p1 x57) (fun v58 S59 => jbin0 (f_L_low ((p2 >>> ((6 : Int32) &&& 31))) (3 : Int32)) (fun v60 _ => jbin0 (f_X10_type S59 p1 (((60 : Int32) + v60))) (fun v61 S62 => jbin0 (f_L_low ((p2 >>> ((8 : Int32) &&& 31))) (4 : Int32)) (fun v63 _ => jbin0 (f_X10_type S62 p1 (((48 : Int32) + v63))) (fun v64 S65 => some (0, v64, S65))))))) (fun k56 => (if v26 = (0 : Int32) then k56 (108 : Int32) else (if v26 = (1 : Int32) then k56 (97 : Int32) else k56 (112 : Int32)))))) (fun k28 => (if v27 = (0 : Int32) then jbin0 (f_X10_type S24 p1 (33 : Int32)) (fun v29 S30 => k28 S30 v29) else k28 S24 x25))))) (fun k3 => joinK (fun (S19 : jS) => jbin0 (f_X10_erase S19 p1 (60 : Int32)) (fun v20 S21 => k3 S21 v20)) (fun k4 => (if v1 ≤ (0 : Int32) then k4 S2 else jbin0 (f_X10_fault S2 p1) (fun v5 S6 => (if v5 = (-1 : Int32) then jbin0 (f_L_low p2 (2 : Int32)) (fun v7 _ => joinK (fun (x9 : Int32) => jbin0 (f_X10_type S6 p1 x9) (fun v10 S11 => k3 S11 v10)) (fun k8 => (if v7 = (0 : Int32) then k8 (124 : Int32) else k8 (38 : Int32)))) else k4 S6))))) else some (0, v1, S2)))
abbrev rm_L_typeTest : Room := { frames := 9, cells := 29, slots := 174, locals := 155 }
set_option maxHeartbeats 4000000 in
set_option maxRecDepth 100000 in
theorem c_L_typeTest {l : Launch} {D : va_G} {B t0 : Nat} (hl9 : l.stackTraces = false) (S : jS) (X9 : jMem) (z : Nat → Prop) (p1 : Int32) (p2 : Int32) : jCf l D B t0 yL_typeTest cL_typeTest 5 (some .int) rm_L_typeTest [.ref (B + 0), .int p1, .int p2] (memG 0 358 D B S X9) z (f_L_typeTest S p1 p2) rvI (fun S9 M9 => M9 = memG 0 358 D B S9 X9) z := by
  refine jC_of hl9 (me_L_typeTest).1 [(0, .ref (B + 0)), (1, .int p1), (2, .int p2)] ⟨by decide +kernel, Nat.le_of_ble_eq_true rfl⟩ rfl (fun κ hl hD hB hT X htab hin => ?_)
  subst hl hD hB hT
  have X : jX κ RL cL_typeTest 5 (some .int) := X
  unfold f_L_typeTest
  refine j_aload_n X 0 rfl dL_typeTest_0 rfl ?_
  refine j_iload_n X 1 rfl dL_typeTest_1 rfl ?_
  refine j_iconst X (1 : Int32) dL_typeTest_2 (by rfl) ?_
  refine j_call0V X 27 162 (c_X10_erase X.tr S X9 z p1 (1 : Int32)) me_X10_erase ml_L_27 iv_X10_erase cf_X10 dL_typeTest_3 (memG_at kf_0) (rest := []) rfl rfl (by decide) (by decide) (Nat.le_of_ble_eq_true rfl) (fun v1 S2 M85 hM84 => ?_)
  subst M85
  refine j_st (st1 := [.int v1]) rfl ?_
  refine j_istore_n X [(3, .int v1), (0, .ref (kB κ + 0)), (1, .int p1), (2, .int p2)] dL_typeTest_6 rfl (by decide) rfl ?_
  refine j_iload_n X 0 rfl dL_typeTest_7 rfl ?_
  refine j_bipush X (40 : Int32) dL_typeTest_8 (by rfl) ?_
  refine j_icmp_le X 15 dL_typeTest_10 (by decide) ?_ ?_
  · refine j_iload_n X 0 rfl dL_typeTest_15 rfl ?_
    refine j_join (fun k3 => ∀ (S24 : jS) (x25 : Int32), J κ 5 rm_L_typeTest (jQf κ rm_L_typeTest rvI (fun S9 M9 => M9 = memG 0 358 (kD κ) (kB κ) S9 X9) z) (k3 S24 x25) (memG 0 358 (kD κ) (kB κ) S24 X9) z 23 138 [(0, .ref (kB κ + 0)), (1, .int p1), (2, .int p2)] 58 [.int x25]) ?_ (fun k3 hk3 => ?_)
    · intro S24 x25
      refine j_istore_n X [(3, .int x25), (0, .ref (kB κ + 0)), (1, .int p1), (2, .int p2)] dL_typeTest_58 rfl (by decide) rfl ?_
      refine j_iload_n X 3 rfl dL_typeTest_59 rfl ?_
      refine j_iconst X (1 : Int32) dL_typeTest_60 (by rfl) ?_
      refine j_ishr X dL_typeTest_61 ?_
      refine j_bipush X (6 : Int32) dL_typeTest_62 (by rfl) ?_
      refine j_call0S X 23 138 (c_L_low X.tr (memG 0 358 (kD κ) (kB κ) S24 X9) z ((p2 >>> ((1 : Int32) &&& 31))) (6 : Int32)) me_L_low ml_L_80 st_L_low dL_typeTest_64 (rest := []) rfl rfl (by decide) (by decide) (Nat.le_of_ble_eq_true rfl) (fun v26 u83 M82 hM81 => ?_)
      subst M82
      refine j_st (st1 := [.int v26]) rfl ?_
      refine j_istore X [(4, .int v26), (3, .int x25), (0, .ref (kB κ + 0)), (1, .int p1), (2, .int p2)] dL_typeTest_67 (by decide) rfl ?_
      refine j_iload_n X 4 rfl dL_typeTest_69 rfl ?_
      refine j_iconst X (4 : Int32) dL_typeTest_70 (by rfl) ?_
      refine j_ishr X dL_typeTest_71 ?_
      refine j_iconst X (4 : Int32) dL_typeTest_72 (by rfl) ?_
      refine j_call0S X 23 138 (c_L_low X.tr (memG 0 358 (kD κ) (kB κ) S24 X9) z ((p2 >>> ((4 : Int32) &&& 31))) (4 : Int32)) me_L_low ml_L_80 st_L_low dL_typeTest_73 (rest := []) rfl rfl (by decide) (by decide) (Nat.le_of_ble_eq_true rfl) (fun v27 u80 M79 hM78 => ?_)
      subst M79
      refine j_st (st1 := [.int v27]) rfl ?_
      refine j_join (fun k28 => ∀ (S33 : jS) (x34 : Int32), J κ 5 rm_L_typeTest (jQf κ rm_L_typeTest rvI (fun S9 M9 => M9 = memG 0 358 (kD κ) (kB κ) S9 X9) z) (k28 S33 x34) (memG 0 358 (kD κ) (kB κ) S33 X9) z 20 120 [(0, .ref (kB κ + 0)), (1, .int p1), (2, .int p2), (4, .int v26)] 90 [.int x34]) ?_ (fun k28 hk28 => ?_)
      · intro S33 x34
        refine j_istore_n X [(3, .int x34), (0, .ref (kB κ + 0)), (1, .int p1), (2, .int p2), (4, .int v26)] dL_typeTest_90 rfl (by decide) rfl ?_
        refine j_iload X 4 rfl dL_typeTest_91 ?_
        refine j_iconst X (3 : Int32) dL_typeTest_93 (by rfl) ?_
        refine j_icmp_ge X 160 dL_typeTest_94 (by decide) ?_ ?_
        · refine j_iload X 4 rfl dL_typeTest_160 ?_
          refine j_iconst X (3 : Int32) dL_typeTest_162 (by rfl) ?_
          refine j_join (fun k35 => ∀ (S44 : jS) (x45 : Int32), J κ 5 rm_L_typeTest (jQf κ rm_L_typeTest rvI (fun S9 M9 => M9 = memG 0 358 (kD κ) (kB κ) S9 X9) z) (k35 S44 x45) (memG 0 358 (kD κ) (kB κ) S44 X9) z 17 102 [(0, .ref (kB κ + 0)), (1, .int p1), (2, .int p2), (4, .int v26)] 193 [.int x45]) ?_ (fun k35 hk35 => ?_)
          · intro S44 x45
            refine j_istore_n X [(3, .int x45), (0, .ref (kB κ + 0)), (1, .int p1), (2, .int p2), (4, .int v26)] dL_typeTest_193 rfl (by decide) rfl ?_
            refine j_aload_n X 1 rfl dL_typeTest_194 rfl ?_
            refine j_iload_n X 2 rfl dL_typeTest_195 rfl ?_
            refine j_iload X 4 rfl dL_typeTest_196 ?_
            refine j_iconst X (5 : Int32) dL_typeTest_198 (by rfl) ?_
            refine j_join (fun k46 => ∀ (x51 : Int32), J κ 5 rm_L_typeTest (jQf κ rm_L_typeTest rvI (fun S9 M9 => M9 = memG 0 358 (kD κ) (kB κ) S9 X9) z) (k46 x51) (memG 0 358 (kD κ) (kB κ) S44 X9) z 17 102 [] 219 [.int x51, .int p1, .ref (kB κ + 0)]) ?_ (fun k46 hk46 => ?_)
            · intro x51
              refine j_call0V X 14 84 (c_X10_type X.tr S44 X9 z p1 x51) me_X10_type ml_L_21 iv_X10_type cf_X10 dL_typeTest_219 (memG_at kf_0) (rest := []) rfl rfl (by decide) (by decide) (Nat.le_of_ble_eq_true rfl) (fun v52 S53 M55 hM54 => ?_)
              subst M55
              refine j_st (st1 := [.int v52]) rfl ?_
              exact j_iret X dL_typeTest_222 rfl (fun _ h => h)
            · refine j_icmp_ne X 207 dL_typeTest_199 (by decide) ?_ ?_
              · refine j_bipush X (42 : Int32) dL_typeTest_202 (by rfl) ?_
                refine j_goto X 219 dL_typeTest_204 (by decide) ?_
                refine j_lv [] rfl ?_
                exact hk46 (42 : Int32)
              · refine j_bipush X (48 : Int32) dL_typeTest_207 (by rfl) ?_
                refine j_iload_n X 3 rfl dL_typeTest_209 rfl ?_
                refine j_bipush X (8 : Int32) dL_typeTest_210 (by rfl) ?_
                refine j_ishr X dL_typeTest_212 ?_
                refine j_bipush X (6 : Int32) dL_typeTest_213 (by rfl) ?_
                refine j_call0S X 17 102 (c_L_low X.tr (memG 0 358 (kD κ) (kB κ) S44 X9) z ((p2 >>> ((8 : Int32) &&& 31))) (6 : Int32)) me_L_low ml_L_80 st_L_low dL_typeTest_215 (rest := [.int (48 : Int32), .int p1, .ref (kB κ + 0)]) rfl rfl (by decide) (by decide) (Nat.le_of_ble_eq_true rfl) (fun v47 u50 M49 hM48 => ?_)
                subst M49
                refine j_st (st1 := [.int v47, .int (48 : Int32), .int p1, .ref (kB κ + 0)]) rfl ?_
                refine j_iadd X dL_typeTest_218 ?_
                refine j_lv [] rfl ?_
                exact hk46 (((48 : Int32) + v47))
          · refine j_icmp_ne X 176 dL_typeTest_163 (by decide) ?_ ?_
            · refine j_aload_n X 1 rfl dL_typeTest_166 rfl ?_
              refine j_iload_n X 2 rfl dL_typeTest_167 rfl ?_
              refine j_bipush X (116 : Int32) dL_typeTest_168 (by rfl) ?_
              refine j_call0V X 17 102 (c_X10_type X.tr S33 X9 z p1 (116 : Int32)) me_X10_type ml_L_21 iv_X10_type cf_X10 dL_typeTest_170 (memG_at kf_0) (rest := []) rfl rfl (by decide) (by decide) (Nat.le_of_ble_eq_true rfl) (fun v40 S41 M43 hM42 => ?_)
              subst M43
              refine j_st (st1 := [.int v40]) rfl ?_
              refine j_goto X 193 dL_typeTest_173 (by decide) ?_
              refine j_lv [1, 2, 3, 4] rfl ?_
              exact hk35 S41 v40
            · refine j_iload X 4 rfl dL_typeTest_176 ?_
              refine j_iconst X (4 : Int32) dL_typeTest_178 (by rfl) ?_
              refine j_icmp_ne X 192 dL_typeTest_179 (by decide) ?_ ?_
              · refine j_aload_n X 1 rfl dL_typeTest_182 rfl ?_
                refine j_iload_n X 2 rfl dL_typeTest_183 rfl ?_
                refine j_bipush X (64 : Int32) dL_typeTest_184 (by rfl) ?_
                refine j_call0V X 17 102 (c_X10_type X.tr S33 X9 z p1 (64 : Int32)) me_X10_type ml_L_21 iv_X10_type cf_X10 dL_typeTest_186 (memG_at kf_0) (rest := []) rfl rfl (by decide) (by decide) (Nat.le_of_ble_eq_true rfl) (fun v36 S37 M39 hM38 => ?_)
                subst M39
                refine j_st (st1 := [.int v36]) rfl ?_
                refine j_goto X 193 dL_typeTest_189 (by decide) ?_
                refine j_lv [1, 2, 3, 4] rfl ?_
                exact hk35 S37 v36
              · refine j_iload_n X 0 rfl dL_typeTest_192 rfl ?_
                refine j_lv [1, 2, 3, 4] rfl ?_
                refine j_bud (bc1 := 17) (bs1 := 102) (by decide) (by decide) ?_
                exact hk35 S33 x34
        · refine j_aload_n X 1 rfl dL_typeTest_97 rfl ?_
          refine j_iload_n X 2 rfl dL_typeTest_98 rfl ?_
          refine j_iload X 4 rfl dL_typeTest_99 ?_
          refine j_join (fun k56 => ∀ (x57 : Int32), J κ 5 rm_L_typeTest (jQf κ rm_L_typeTest rvI (fun S9 M9 => M9 = memG 0 358 (kD κ) (kB κ) S9 X9) z) (k56 x57) (memG 0 358 (kD κ) (kB κ) S33 X9) z 20 120 [(0, .ref (kB κ + 0)), (1, .int p1), (2, .int p2)] 122 [.int x57, .int p1, .ref (kB κ + 0)]) ?_ (fun k56 hk56 => ?_)
          · intro x57
            refine j_call0V X 17 102 (c_X10_type X.tr S33 X9 z p1 x57) me_X10_type ml_L_21 iv_X10_type cf_X10 dL_typeTest_122 (memG_at kf_0) (rest := []) rfl rfl (by decide) (by decide) (Nat.le_of_ble_eq_true rfl) (fun v58 S59 M77 hM76 => ?_)
            subst M77
            refine j_st (st1 := [.int v58]) rfl ?_
            refine j_istore_n X [(3, .int v58), (0, .ref (kB κ + 0)), (1, .int p1), (2, .int p2)] dL_typeTest_125 rfl (by decide) rfl ?_
            refine j_aload_n X 1 rfl dL_typeTest_126 rfl ?_
            refine j_iload_n X 2 rfl dL_typeTest_127 rfl ?_
            refine j_bipush X (60 : Int32) dL_typeTest_128 (by rfl) ?_
            refine j_iload_n X 3 rfl dL_typeTest_130 rfl ?_
            refine j_bipush X (6 : Int32) dL_typeTest_131 (by rfl) ?_
            refine j_ishr X dL_typeTest_133 ?_
            refine j_iconst X (3 : Int32) dL_typeTest_134 (by rfl) ?_
            refine j_call0S X 17 102 (c_L_low X.tr (memG 0 358 (kD κ) (kB κ) S59 X9) z ((p2 >>> ((6 : Int32) &&& 31))) (3 : Int32)) me_L_low ml_L_80 st_L_low dL_typeTest_135 (rest := [.int (60 : Int32), .int p1, .ref (kB κ + 0)]) rfl rfl (by decide) (by decide) (Nat.le_of_ble_eq_true rfl) (fun v60 u75 M74 hM73 => ?_)
            subst M74
            refine j_st (st1 := [.int v60, .int (60 : Int32), .int p1, .ref (kB κ + 0)]) rfl ?_
            refine j_iadd X dL_typeTest_138 ?_
            refine j_call0V X 14 84 (c_X10_type X.tr S59 X9 z p1 (((60 : Int32) + v60))) me_X10_type ml_L_21 iv_X10_type cf_X10 dL_typeTest_139 (memG_at kf_0) (rest := []) rfl rfl (by decide) (by decide) (Nat.le_of_ble_eq_true rfl) (fun v61 S62 M72 hM71 => ?_)
            subst M72
            refine j_st (st1 := [.int v61]) rfl ?_
            refine j_istore_n X [(3, .int v61), (0, .ref (kB κ + 0)), (1, .int p1), (2, .int p2)] dL_typeTest_142 rfl (by decide) rfl ?_
            refine j_aload_n X 1 rfl dL_typeTest_143 rfl ?_
            refine j_iload_n X 2 rfl dL_typeTest_144 rfl ?_
            refine j_bipush X (48 : Int32) dL_typeTest_145 (by rfl) ?_
            refine j_iload_n X 3 rfl dL_typeTest_147 rfl ?_
            refine j_bipush X (8 : Int32) dL_typeTest_148 (by rfl) ?_
            refine j_ishr X dL_typeTest_150 ?_
            refine j_iconst X (4 : Int32) dL_typeTest_151 (by rfl) ?_
            refine j_call0S X 14 84 (c_L_low X.tr (memG 0 358 (kD κ) (kB κ) S62 X9) z ((p2 >>> ((8 : Int32) &&& 31))) (4 : Int32)) me_L_low ml_L_80 st_L_low dL_typeTest_152 (rest := [.int (48 : Int32), .int p1, .ref (kB κ + 0)]) rfl rfl (by decide) (by decide) (Nat.le_of_ble_eq_true rfl) (fun v63 u70 M69 hM68 => ?_)
            subst M69
            refine j_st (st1 := [.int v63, .int (48 : Int32), .int p1, .ref (kB κ + 0)]) rfl ?_
            refine j_iadd X dL_typeTest_155 ?_
            refine j_call0V X 11 66 (c_X10_type X.tr S62 X9 z p1 (((48 : Int32) + v63))) me_X10_type ml_L_21 iv_X10_type cf_X10 dL_typeTest_156 (memG_at kf_0) (rest := []) rfl rfl (by decide) (by decide) (Nat.le_of_ble_eq_true rfl) (fun v64 S65 M67 hM66 => ?_)
            subst M67
            refine j_st (st1 := [.int v64]) rfl ?_
            exact j_iret X dL_typeTest_159 rfl (fun _ h => h)
          · refine j_if_ne X 109 dL_typeTest_101 (by decide) ?_ ?_
            · refine j_bipush X (108 : Int32) dL_typeTest_104 (by rfl) ?_
              refine j_goto X 122 dL_typeTest_106 (by decide) ?_
              refine j_lv [1, 2, 3] rfl ?_
              exact hk56 (108 : Int32)
            · refine j_iload X 4 rfl dL_typeTest_109 ?_
              refine j_iconst X (1 : Int32) dL_typeTest_111 (by rfl) ?_
              refine j_icmp_ne X 120 dL_typeTest_112 (by decide) ?_ ?_
              · refine j_bipush X (97 : Int32) dL_typeTest_115 (by rfl) ?_
                refine j_goto X 122 dL_typeTest_117 (by decide) ?_
                refine j_lv [1, 2, 3] rfl ?_
                exact hk56 (97 : Int32)
              · refine j_bipush X (112 : Int32) dL_typeTest_120 (by rfl) ?_
                refine j_lv [1, 2, 3] rfl ?_
                exact hk56 (112 : Int32)
      · refine j_if_ne X 89 dL_typeTest_76 (by decide) ?_ ?_
        · refine j_aload_n X 2 rfl dL_typeTest_79 rfl ?_
          refine j_iload_n X 3 rfl dL_typeTest_80 rfl ?_
          refine j_bipush X (33 : Int32) dL_typeTest_81 (by rfl) ?_
          refine j_call0V X 20 120 (c_X10_type X.tr S24 X9 z p1 (33 : Int32)) me_X10_type ml_L_21 iv_X10_type cf_X10 dL_typeTest_83 (memG_at kf_0) (rest := []) rfl rfl (by decide) (by decide) (Nat.le_of_ble_eq_true rfl) (fun v29 S30 M32 hM31 => ?_)
          subst M32
          refine j_st (st1 := [.int v29]) rfl ?_
          refine j_goto X 90 dL_typeTest_86 (by decide) ?_
          refine j_lv [2, 3, 4, 0] rfl ?_
          exact hk28 S30 v29
        · refine j_iload_n X 1 rfl dL_typeTest_89 rfl ?_
          refine j_lv [2, 3, 4, 0] rfl ?_
          refine j_bud (bc1 := 20) (bs1 := 120) (by decide) (by decide) ?_
          exact hk28 S24 x25
    · refine j_join (fun k4 => ∀ (S19 : jS), J κ 5 rm_L_typeTest (jQf κ rm_L_typeTest rvI (fun S9 M9 => M9 = memG 0 358 (kD κ) (kB κ) S9 X9) z) (k4 S19) (memG 0 358 (kD κ) (kB κ) S19 X9) z 26 156 [(0, .ref (kB κ + 0)), (1, .int p1), (2, .int p2)] 51 []) ?_ (fun k4 hk4 => ?_)
      · intro S19
        refine j_aload_n X 0 rfl dL_typeTest_51 rfl ?_
        refine j_iload_n X 1 rfl dL_typeTest_52 rfl ?_
        refine j_bipush X (60 : Int32) dL_typeTest_53 (by rfl) ?_
        refine j_call0V X 24 144 (c_X10_erase X.tr S19 X9 z p1 (60 : Int32)) me_X10_erase ml_L_27 iv_X10_erase cf_X10 dL_typeTest_55 (memG_at kf_0) (rest := []) rfl rfl (by decide) (by decide) (Nat.le_of_ble_eq_true rfl) (fun v20 S21 M23 hM22 => ?_)
        subst M23
        refine j_st (st1 := [.int v20]) rfl ?_
        refine j_bud (bc1 := 23) (bs1 := 138) (by decide) (by decide) ?_
        exact hk3 S21 v20
      · refine j_if_le X 51 dL_typeTest_16 (by decide) ?_ ?_
        · refine j_lv [1, 2, 3] rfl ?_
          refine j_bud (bc1 := 26) (bs1 := 156) (by decide) (by decide) ?_
          exact hk4 S2
        · refine j_aload_n X 1 rfl dL_typeTest_19 rfl ?_
          refine j_iload_n X 2 rfl dL_typeTest_20 rfl ?_
          refine j_call0V X 26 156 (c_X10_fault X.tr S2 X9 z p1) me_X10_fault ml_L_77 iv_X10_fault cf_X10 dL_typeTest_21 (memG_at kf_0) (rest := []) rfl rfl (by decide) (by decide) (Nat.le_of_ble_eq_true rfl) (fun v5 S6 M18 hM17 => ?_)
          subst M18
          refine j_st (st1 := [.int v5]) rfl ?_
          refine j_iconst X (-1 : Int32) dL_typeTest_24 (by rfl) ?_
          refine j_icmp_ne X 51 dL_typeTest_25 (by decide) ?_ ?_
          · refine j_aload_n X 1 rfl dL_typeTest_28 rfl ?_
            refine j_iload_n X 2 rfl dL_typeTest_29 rfl ?_
            refine j_iload_n X 3 rfl dL_typeTest_30 rfl ?_
            refine j_iconst X (2 : Int32) dL_typeTest_31 (by rfl) ?_
            refine j_call0S X 26 156 (c_L_low X.tr (memG 0 358 (kD κ) (kB κ) S6 X9) z p2 (2 : Int32)) me_L_low ml_L_80 st_L_low dL_typeTest_32 (rest := [.int p1, .ref (kB κ + 0)]) rfl rfl (by decide) (by decide) (Nat.le_of_ble_eq_true rfl) (fun v7 u16 M15 hM14 => ?_)
            subst M15
            refine j_st (st1 := [.int v7, .int p1, .ref (kB κ + 0)]) rfl ?_
            refine j_join (fun k8 => ∀ (x9 : Int32), J κ 5 rm_L_typeTest (jQf κ rm_L_typeTest rvI (fun S9 M9 => M9 = memG 0 358 (kD κ) (kB κ) S9 X9) z) (k8 x9) (memG 0 358 (kD κ) (kB κ) S6 X9) z 26 156 [(0, .ref (kB κ + 0)), (1, .int p1), (2, .int p2)] 45 [.int x9, .int p1, .ref (kB κ + 0)]) ?_ (fun k8 hk8 => ?_)
            · intro x9
              refine j_call0V X 23 138 (c_X10_type X.tr S6 X9 z p1 x9) me_X10_type ml_L_21 iv_X10_type cf_X10 dL_typeTest_45 (memG_at kf_0) (rest := []) rfl rfl (by decide) (by decide) (Nat.le_of_ble_eq_true rfl) (fun v10 S11 M13 hM12 => ?_)
              subst M13
              refine j_st (st1 := [.int v10]) rfl ?_
              refine j_goto X 58 dL_typeTest_48 (by decide) ?_
              exact hk3 S11 v10
            · refine j_if_ne X 43 dL_typeTest_35 (by decide) ?_ ?_
              · refine j_bipush X (124 : Int32) dL_typeTest_38 (by rfl) ?_
                refine j_goto X 45 dL_typeTest_40 (by decide) ?_
                refine j_lv [1, 2, 3] rfl ?_
                exact hk8 (124 : Int32)
              · refine j_bipush X (38 : Int32) dL_typeTest_43 (by rfl) ?_
                refine j_lv [1, 2, 3] rfl ?_
                exact hk8 (38 : Int32)
          · refine j_lv [1, 2, 3] rfl ?_
            exact hk4 S6
  · refine j_iload_n X 0 rfl dL_typeTest_13 rfl ?_
    exact j_iret X dL_typeTest_14 rfl (fun _ h => h)
def f_L_act (S : jS) (L : jLg) (p1 : Int32) : Option (jR jSL) := jbin0 (f_L_low ((p1 >>> ((24 : Int32) &&& 31))) (9 : Int32)) (fun v1 _ => joinK (fun (x3 : Int32) => joinK (fun (x13 : Int32) => joinK (fun (x23 : Int32) => joinK (fun (x33 : Int32) => joinK (fun (x43 : Int32) => jbin0 (f_L_low p1 (26 : Int32)) (fun v44 _ => (if v44 = (0 : Int32) then joinK (fun (x54 : Int32) => joinK (fun (x64 : Int32) => jbin0 (f_L_setAttribute S L x13 x54 x64) (fun v65 S66 => some (0, v65, (S66.1, S66.2)))) (fun k55 => (if x3 = (0 : Int32) then jbin0 (f_L_low ((p1 >>> ((11 : Int32) &&& 31))) (4 : Int32)) (fun v56 _ => k55 v56) else jbin0 (f_L_low ((p1 >>> ((11 : Int32) &&& 31))) (103 : Int32)) (fun v60 _ => k55 ((v60 - (1 : Int32))))))) (fun k45 => (if x3 = (0 : Int32) then jbin0 (f_L_low ((p1 >>> ((9 : Int32) &&& 31))) (3 : Int32)) (fun v46 _ => k45 v46) else jbin0 (f_L_low ((p1 >>> ((9 : Int32) &&& 31))) (5 : Int32)) (fun v50 _ => k45 ((v50 - (1 : Int32)))))) else (if v44 = (1 : Int32) then joinK (fun (x79 : Int32) => joinK (fun (x81 : Int32) => jbin0 (f_L_setTag S L x13 x79 x81) (fun v82 S83 => some (0, v82, (S83.1, S83.2)))) (fun k80 => (if ((p1 >>> ((12 : Int32) &&& 31)) &&& (1 : Int32)) = (1 : Int32) then k80 (1 : Int32) else k80 (0 : Int32)))) (fun k70 => (if x3 = (0 : Int32) then jbin0 (f_L_low ((p1 >>> ((9 : Int32) &&& 31))) (6 : Int32)) (fun v71 _ => k70 v71) else jbin0 (f_L_low ((p1 >>> ((9 : Int32) &&& 31))) (10 : Int32)) (fun v75 _ => k70 ((v75 - (1 : Int32)))))) else (if v44 = (2 : Int32) then joinK (fun (x96 : Int32) => jbin0 (f_L_type S L x43 x96) (fun v97 S98 => some (0, v97, (S98.1, S98.2)))) (fun k87 => (if x3 = (0 : Int32) then jbin0 (f_L_low ((p1 >>> ((9 : Int32) &&& 31))) (5 : Int32)) (fun v88 _ => k87 (((38 : Int32) + v88))) else jbin0 (f_L_low ((p1 >>> ((9 : Int32) &&& 31))) (98 : Int32)) (fun v92 _ => k87 (((31 : Int32) + v92))))) else (if v44 = (3 : Int32) then (if x3 = (0 : Int32) then jbin0 (f_L_typeTest S x43 ((p1 >>> ((8 : Int32) &&& 31)))) (fun v102 S103 => some (0, v102, (S103, L))) else jbin0 (f_L_low ((p1 >>> ((9 : Int32) &&& 31))) (70 : Int32)) (fun v106 _ => jbin0 (f_L_erase S L x43 v106) (fun v107 S108 => some (0, v107, (S108.1, S108.2))))) else (if v44 = (4 : Int32) then (if x3 = (0 : Int32) then jbin0 (f_L_typeTest S x43 ((p1 >>> ((8 : Int32) &&& 31)))) (fun v115 S116 => some (0, v115, (S116, L))) else jbin0 (f_L_low ((p1 >>> ((9 : Int32) &&& 31))) (70 : Int32)) (fun v119 _ => jbin0 (f_L_erase S L x43 v119) (fun v120 S121 => some (0, v120, (S121.1, S121.2))))) else (if v44 = (5 : Int32) then (if x3 = (0 : Int32) then jbin0 (f_L_typeTest S x43 ((p1 >>> ((8 : Int32) &&& 31)))) (fun v128 S129 => some (0, v128, (S129, L))) else jbin0 (f_L_low ((p1 >>> ((9 : Int32) &&& 31))) (70 : Int32)) (fun v132 _ => jbin0 (f_L_erase S L x43 v132) (fun v133 S134 => some (0, v133, (S134.1, S134.2))))) else (if v44 = (6 : Int32) then jbin0 (f_L_set S L x43) (fun v141 S142 => some (0, v141, (S142.1, S142.2))) else (if v44 = (7 : Int32) then jbin0 (f_L_set S L x43) (fun v146 S147 => some (0, v146, (S147.1, S147.2))) else (if v44 = (8 : Int32) then jbin0 (f_L_wouldMove S L x43) (fun v151 S152 => some (0, v151, (S152.1, S152.2))) else (if v44 = (9 : Int32) then joinK (fun (x161 : Int32) => joinK (fun (x163 : Int32) => jbin0 (f_L_low ((p1 >>> ((12 : Int32) &&& 31))) x163) (fun v164 _ => joinK (fun (x174 : Int32) => jbin0 (f_L_addRule S L x23 x161 v164 x174) (fun v175 S176 => some (0, v175, (S176.1, S176.2)))) (fun k165 => (if x3 = (0 : Int32) then jbin0 (f_L_low ((p1 >>> ((15 : Int32) &&& 31))) (8 : Int32)) (fun v166 _ => k165 v166) else jbin0 (f_L_low ((p1 >>> ((15 : Int32) &&& 31))) (12 : Int32)) (fun v170 _ => k165 ((v170 - (1 : Int32)))))))) (fun k162 => (if x3 = (0 : Int32) then k162 (4 : Int32) else k162 (8 : Int32)))) (fun k156 => (if x3 = (0 : Int32) then k156 (0 : Int32) else jbin0 (f_L_low ((p1 >>> ((4 : Int32) &&& 31))) (8 : Int32)) (fun v157 _ => k156 ((v157 - (1 : Int32)))))) else (if v44 = (10 : Int32) then joinK (fun (x188 : Int32) => joinK (fun (x190 : Int32) => jbin0 (f_L_low ((p1 >>> ((12 : Int32) &&& 31))) x190) (fun v191 _ => joinK (fun (x201 : Int32) => jbin0 (f_L_addRule S L x23 x188 v191 x201) (fun v202 S203 => some (0, v202, (S203.1, S203.2)))) (fun k192 => (if x3 = (0 : Int32) then jbin0 (f_L_low ((p1 >>> ((15 : Int32) &&& 31))) (8 : Int32)) (fun v193 _ => k192 v193) else jbin0 (f_L_low ((p1 >>> ((15 : Int32) &&& 31))) (12 : Int32)) (fun v197 _ => k192 ((v197 - (1 : Int32)))))))) (fun k189 => (if x3 = (0 : Int32) then k189 (4 : Int32) else k189 (8 : Int32)))) (fun k183 => (if x3 = (0 : Int32) then k183 (0 : Int32) else jbin0 (f_L_low ((p1 >>> ((4 : Int32) &&& 31))) (8 : Int32)) (fun v184 _ => k183 ((v184 - (1 : Int32)))))) else (if v44 = (11 : Int32) then joinK (fun (x215 : Int32) => joinK (fun (x217 : Int32) => jbin0 (f_L_low ((p1 >>> ((12 : Int32) &&& 31))) x217) (fun v218 _ => joinK (fun (x228 : Int32) => jbin0 (f_L_addRule S L x23 x215 v218 x228) (fun v229 S230 => some (0, v229, (S230.1, S230.2)))) (fun k219 => (if x3 = (0 : Int32) then jbin0 (f_L_low ((p1 >>> ((15 : Int32) &&& 31))) (8 : Int32)) (fun v220 _ => k219 v220) else jbin0 (f_L_low ((p1 >>> ((15 : Int32) &&& 31))) (12 : Int32)) (fun v224 _ => k219 ((v224 - (1 : Int32)))))))) (fun k216 => (if x3 = (0 : Int32) then k216 (4 : Int32) else k216 (8 : Int32)))) (fun k210 => (if x3 = (0 : Int32) then k210 (0 : Int32) else jbin0 (f_L_low ((p1 >>> ((4 : Int32) &&& 31))) (8 : Int32)) (fun v211 _ => k210 ((v211 - (1 : Int32)))))) else (if v44 = (12 : Int32) then joinK (fun (x242 : Int32) => jbin0 (f_L_removeRule S L x23 x242) (fun v243 S244 => some (0, v243, (S244.1, S244.2)))) (fun k237 => (if x3 = (0 : Int32) then k237 (0 : Int32) else jbin0 (f_L_low ((p1 >>> ((4 : Int32) &&& 31))) (7 : Int32)) (fun v238 _ => k237 ((v238 - (1 : Int32)))))) else (if v44 = (13 : Int32) then joinK (fun (x257 : Int32) => joinK (fun (x259 : Int32) => jbin0 (f_L_setNeed S L x23 x257 x259) (fun v260 S261 => some (0, v260, (S261.1, S261.2)))) (fun k258 => (if ((p1 >>> ((12 : Int32) &&& 31)) &&& (1 : Int32)) = (1 : Int32) then k258 (1 : Int32) else k258 (0 : Int32)))) (fun k248 => (if x3 = (0 : Int32) then jbin0 (f_L_low ((p1 >>> ((4 : Int32) &&& 31))) (4 : Int32)) (fun v249 _ => k248 v249) else jbin0 (f_L_low ((p1 >>> ((4 : Int32) &&& 31))) (10 : Int32)) (fun v253 _ => k248 ((v253 - (1 : Int32)))))) else (if v44 = (14 : Int32) then joinK (fun (x274 : Int32) => jbin0 (f_L_low ((p1 >>> ((9 : Int32) &&& 31))) (4 : Int32)) (fun v275 _ => jbin0 (f_L_low ((p1 >>> ((11 : Int32) &&& 31))) (3 : Int32)) (fun v276 _ => jbin0 (f_L_low ((p1 >>> ((13 : Int32) &&& 31))) (3 : Int32)) (fun v277 _ => jbin0 (f_L_setShares S L x33 x274 v275 v276 v277) (fun v278 S279 => some (0, v278, (S279.1, S279.2))))))) (fun k265 => (if x3 = (0 : Int32) then jbin0 (f_L_low ((p1 >>> ((7 : Int32) &&& 31))) (4 : Int32)) (fun v266 _ => k265 v266) else jbin0 (f_L_low ((p1 >>> ((7 : Int32) &&& 31))) (103 : Int32)) (fun v270 _ => k265 ((v270 - (1 : Int32)))))) else (if v44 = (15 : Int32) then joinK (fun (x301 : Int32) => jbin0 (f_L_setSalt S L x33 x301) (fun v302 S303 => some (0, v302, (S303.1, S303.2)))) (fun k292 => (if x3 = (0 : Int32) then jbin0 (f_L_low ((p1 >>> ((7 : Int32) &&& 31))) (50 : Int32)) (fun v293 _ => k292 v293) else jbin0 (f_L_low ((p1 >>> ((7 : Int32) &&& 31))) (1004 : Int32)) (fun v297 _ => k292 ((v297 - (1 : Int32)))))) else (if v44 = (16 : Int32) then joinK (fun (x316 : Int32) => jbin0 (f_L_stop S L x33 x316) (fun v317 S318 => some (0, v317, (S318.1, S318.2)))) (fun k307 => (if x3 = (0 : Int32) then jbin0 (f_L_low ((p1 >>> ((7 : Int32) &&& 31))) (4 : Int32)) (fun v308 _ => k307 v308) else jbin0 (f_L_low ((p1 >>> ((7 : Int32) &&& 31))) (6 : Int32)) (fun v312 _ => k307 ((v312 - (1 : Int32)))))) else (if v44 = (17 : Int32) then jbin0 (f_L_beginAnew S L x33) (fun v322 S323 => some (0, v322, (S323.1, S323.2))) else (if v44 = (18 : Int32) then jbin0 (f_L_hold S L x13 x23) (fun v327 S328 => some (0, v327, (S328.1, S328.2))) else (if v44 = (19 : Int32) then jbin0 (f_L_release S L x13 x23) (fun v332 S333 => some (0, v332, (S333.1, S333.2))) else (if v44 = (20 : Int32) then jbin0 (f_L_holdTrial S L x33) (fun v337 S338 => some (0, v337, (S338.1, S338.2))) else (if v44 = (21 : Int32) then jbin0 (f_L_releaseTrial S L x33) (fun v342 S343 => some (0, v342, (S343.1, S343.2))) else jbin0 (f_L_show S L x13 x23) (fun v347 S348 => some (0, v347, (S348.1, S348.2))))))))))))))))))))))))))) (fun k34 => (if x3 = (0 : Int32) then jbin0 (f_L_low ((p1 >>> ((4 : Int32) &&& 31))) (4 : Int32)) (fun v35 _ => k34 v35) else jbin0 (f_L_low ((p1 >>> ((4 : Int32) &&& 31))) (8 : Int32)) (fun v39 _ => k34 ((v39 - (1 : Int32))))))) (fun k24 => (if x3 = (0 : Int32) then jbin0 (f_L_low ((p1 >>> ((4 : Int32) &&& 31))) (3 : Int32)) (fun v25 _ => k24 v25) else jbin0 (f_L_low ((p1 >>> ((4 : Int32) &&& 31))) (8 : Int32)) (fun v29 _ => k24 ((v29 - (1 : Int32))))))) (fun k14 => (if x3 = (0 : Int32) then jbin0 (f_L_low ((p1 >>> ((9 : Int32) &&& 31))) (4 : Int32)) (fun v15 _ => k14 v15) else jbin0 (f_L_low ((p1 >>> ((9 : Int32) &&& 31))) (10 : Int32)) (fun v19 _ => k14 ((v19 - (1 : Int32))))))) (fun k4 => (if x3 = (0 : Int32) then jbin0 (f_L_low ((p1 >>> ((4 : Int32) &&& 31))) (6 : Int32)) (fun v5 _ => k4 v5) else jbin0 (f_L_low ((p1 >>> ((4 : Int32) &&& 31))) (23 : Int32)) (fun v9 _ => k4 ((v9 - (1 : Int32))))))) (fun k2 => (if v1 = (0 : Int32) then k2 (1 : Int32) else k2 (0 : Int32))))
abbrev rm_L_act : Room := { frames := 10, cells := 96, slots := 4134, locals := 269 }
set_option maxHeartbeats 4000000 in
set_option maxRecDepth 100000 in
theorem c_L_act {l : Launch} {D : va_G} {B t0 : Nat} (hl9 : l.stackTraces = false) (S : jS) (X9 : jMem) (L : jLg) (hL : LogX D B t0 L X9) (p1 : Int32) : jCf l D B t0 yL_act cL_act 7 (some .int) rm_L_act [.ref (B + 0), .int p1] (memG 0 358 D B S X9) (zD D) (f_L_act S L p1) rvI (fun (S9 : jSL) M9 => ∃ X1, M9 = memG 0 358 D B S9.1 X1 ∧ LogK D B t0 X9 S9.2 X1) (zD D) := by
  refine jC_of hl9 (me_L_act).1 [(0, .ref (B + 0)), (1, .int p1)] ⟨by decide +kernel, Nat.le_of_ble_eq_true rfl⟩ rfl (fun κ hl hD hB hT X htab hin => ?_)
  subst hl hD hB hT
  have X : jX κ RL cL_act 7 (some .int) := X
  have hK : LogK (kD κ) (kB κ) (kT κ) X9 L X9 := LogK.rf hL
  unfold f_L_act
  refine j_iload_n X 1 rfl dL_act_0 rfl ?_
  refine j_bipush X (24 : Int32) dL_act_1 (by rfl) ?_
  refine j_ishr X dL_act_3 ?_
  refine j_bipush X (9 : Int32) dL_act_4 (by rfl) ?_
  refine j_call0S X 96 4134 (c_L_low X.tr (memG 0 358 (kD κ) (kB κ) S X9) (zD (kD κ)) ((p1 >>> ((24 : Int32) &&& 31))) (9 : Int32)) me_L_low ml_L_80 st_L_low dL_act_6 (rest := []) rfl rfl (by decide) (by decide) (Nat.le_of_ble_eq_true rfl) (fun v1 u357 M356 hM355 => ?_)
  subst M356
  refine j_st (st1 := [.int v1]) rfl ?_
  refine j_join (fun k2 => ∀ (x3 : Int32), J κ 7 rm_L_act (jQf κ rm_L_act rvI (fun (S9 : jSL) M9 => ∃ X1, M9 = memG 0 358 (kD κ) (kB κ) S9.1 X1 ∧ LogK (kD κ) (kB κ) (kT κ) X9 S9.2 X1) (zD (kD κ))) (k2 x3) (memG 0 358 (kD κ) (kB κ) S X9) (zD (kD κ)) 96 4134 [(0, .ref (kB κ + 0)), (1, .int p1)] 17 [.int x3]) ?_ (fun k2 hk2 => ?_)
  · intro x3
    refine j_istore_n X [(2, .int x3), (0, .ref (kB κ + 0)), (1, .int p1)] dL_act_17 rfl (by decide) rfl ?_
    refine j_iload_n X 0 rfl dL_act_18 rfl ?_
    refine j_join (fun k4 => ∀ (x13 : Int32), J κ 7 rm_L_act (jQf κ rm_L_act rvI (fun (S9 : jSL) M9 => ∃ X1, M9 = memG 0 358 (kD κ) (kB κ) S9.1 X1 ∧ LogK (kD κ) (kB κ) (kT κ) X9 S9.2 X1) (zD (kD κ))) (k4 x13) (memG 0 358 (kD κ) (kB κ) S X9) (zD (kD κ)) 96 4134 [(0, .ref (kB κ + 0)), (1, .int p1), (2, .int x3)] 43 [.int x13]) ?_ (fun k4 hk4 => ?_)
    · intro x13
      refine j_istore_n X [(3, .int x13), (0, .ref (kB κ + 0)), (1, .int p1), (2, .int x3)] dL_act_43 rfl (by decide) rfl ?_
      refine j_iload_n X 3 rfl dL_act_44 rfl ?_
      refine j_join (fun k14 => ∀ (x23 : Int32), J κ 7 rm_L_act (jQf κ rm_L_act rvI (fun (S9 : jSL) M9 => ∃ X1, M9 = memG 0 358 (kD κ) (kB κ) S9.1 X1 ∧ LogK (kD κ) (kB κ) (kT κ) X9 S9.2 X1) (zD (kD κ))) (k14 x23) (memG 0 358 (kD κ) (kB κ) S X9) (zD (kD κ)) 96 4134 [(0, .ref (kB κ + 0)), (1, .int p1), (2, .int x3), (3, .int x13)] 70 [.int x23]) ?_ (fun k14 hk14 => ?_)
      · intro x23
        refine j_istore X [(4, .int x23), (0, .ref (kB κ + 0)), (1, .int p1), (2, .int x3), (3, .int x13)] dL_act_70 (by decide) rfl ?_
        refine j_iload_n X 3 rfl dL_act_72 rfl ?_
        refine j_join (fun k24 => ∀ (x33 : Int32), J κ 7 rm_L_act (jQf κ rm_L_act rvI (fun (S9 : jSL) M9 => ∃ X1, M9 = memG 0 358 (kD κ) (kB κ) S9.1 X1 ∧ LogK (kD κ) (kB κ) (kT κ) X9 S9.2 X1) (zD (kD κ))) (k24 x33) (memG 0 358 (kD κ) (kB κ) S X9) (zD (kD κ)) 96 4134 [(0, .ref (kB κ + 0)), (1, .int p1), (2, .int x3), (3, .int x13), (4, .int x23)] 96 [.int x33]) ?_ (fun k24 hk24 => ?_)
        · intro x33
          refine j_istore X [(5, .int x33), (0, .ref (kB κ + 0)), (1, .int p1), (2, .int x3), (3, .int x13), (4, .int x23)] dL_act_96 (by decide) rfl ?_
          refine j_iload_n X 3 rfl dL_act_98 rfl ?_
          refine j_join (fun k34 => ∀ (x43 : Int32), J κ 7 rm_L_act (jQf κ rm_L_act rvI (fun (S9 : jSL) M9 => ∃ X1, M9 = memG 0 358 (kD κ) (kB κ) S9.1 X1 ∧ LogK (kD κ) (kB κ) (kT κ) X9 S9.2 X1) (zD (kD κ))) (k34 x43) (memG 0 358 (kD κ) (kB κ) S X9) (zD (kD κ)) 96 4134 [(0, .ref (kB κ + 0)), (1, .int p1), (2, .int x3), (3, .int x13), (4, .int x23), (5, .int x33)] 122 [.int x43]) ?_ (fun k34 hk34 => ?_)
          · intro x43
            refine j_istore X [(6, .int x43), (0, .ref (kB κ + 0)), (1, .int p1), (2, .int x3), (3, .int x13), (4, .int x23), (5, .int x33)] dL_act_122 (by decide) rfl ?_
            refine j_iload_n X 2 rfl dL_act_124 rfl ?_
            refine j_bipush X (26 : Int32) dL_act_125 (by rfl) ?_
            refine j_call0S X 96 4134 (c_L_low X.tr (memG 0 358 (kD κ) (kB κ) S X9) (zD (kD κ)) p1 (26 : Int32)) me_L_low ml_L_80 st_L_low dL_act_127 (rest := []) rfl rfl (by decide) (by decide) (Nat.le_of_ble_eq_true rfl) (fun v44 u354 M353 hM352 => ?_)
            subst M353
            refine j_st (st1 := [.int v44]) rfl ?_
            refine j_ite (fun hc130_0 => ?_) (fun hc130_0 => ?_)
            · refine j_table (off := 102) X 232 dL_act_130 (by rw [hc130_0]; decide) (by rw [hc130_0]; decide) (by rw [hc130_0]; rfl) (by decide) ?_
              refine j_aload_n X 1 rfl dL_act_232 rfl ?_
              refine j_iload_n X 4 rfl dL_act_233 rfl ?_
              refine j_iload_n X 3 rfl dL_act_234 rfl ?_
              refine j_join (fun k45 => ∀ (x54 : Int32), J κ 7 rm_L_act (jQf κ rm_L_act rvI (fun (S9 : jSL) M9 => ∃ X1, M9 = memG 0 358 (kD κ) (kB κ) S9.1 X1 ∧ LogK (kD κ) (kB κ) (kT κ) X9 S9.2 X1) (zD (kD κ))) (k45 x54) (memG 0 358 (kD κ) (kB κ) S X9) (zD (kD κ)) 96 4134 [(1, .int p1), (2, .int x3)] 259 [.int x54, .int x13, .ref (kB κ + 0)]) ?_ (fun k45 hk45 => ?_)
              · intro x54
                refine j_iload_n X 1 rfl dL_act_259 rfl ?_
                refine j_join (fun k55 => ∀ (x64 : Int32), J κ 7 rm_L_act (jQf κ rm_L_act rvI (fun (S9 : jSL) M9 => ∃ X1, M9 = memG 0 358 (kD κ) (kB κ) S9.1 X1 ∧ LogK (kD κ) (kB κ) (kT κ) X9 S9.2 X1) (zD (kD κ))) (k55 x64) (memG 0 358 (kD κ) (kB κ) S X9) (zD (kD κ)) 96 4134 [] 285 [.int x64, .int x54, .int x13, .ref (kB κ + 0)]) ?_ (fun k55 hk55 => ?_)
                · intro x64
                  refine j_call0SH X 93 4116 (c_L_setAttribute X.tr S X9 L hK.1 x13 x54 x64) mh_L_setAttribute ml_L_85 st_L_setAttribute dL_act_285 (rest := []) rfl rfl (by decide) (by decide) (Nat.le_of_ble_eq_true rfl) (fun v65 S66 M69 hM68 => ?_)
                  obtain ⟨X67, rfl, hKX671⟩ := hM68
                  have hKX67 := (hK).trans hKX671
                  refine j_st (st1 := [.int v65]) rfl ?_
                  exact j_iret X dL_act_288 ⟨_, rfl, hKX67⟩ (fun _ h => h)
                · refine j_if_eq X 277 dL_act_260 (by decide) ?_ ?_
                  · refine j_iload_n X 0 rfl dL_act_277 rfl ?_
                    refine j_bipush X (11 : Int32) dL_act_278 (by rfl) ?_
                    refine j_ishr X dL_act_280 ?_
                    refine j_iconst X (4 : Int32) dL_act_281 (by rfl) ?_
                    refine j_call0S X 96 4134 (c_L_low X.tr (memG 0 358 (kD κ) (kB κ) S X9) (zD (kD κ)) ((p1 >>> ((11 : Int32) &&& 31))) (4 : Int32)) me_L_low ml_L_80 st_L_low dL_act_282 (rest := [.int x54, .int x13, .ref (kB κ + 0)]) rfl rfl (by decide) (by decide) (Nat.le_of_ble_eq_true rfl) (fun v56 u59 M58 hM57 => ?_)
                    subst M58
                    refine j_st (st1 := [.int v56, .int x54, .int x13, .ref (kB κ + 0)]) rfl ?_
                    refine j_lv [] rfl ?_
                    exact hk55 v56
                  · refine j_iload_n X 0 rfl dL_act_263 rfl ?_
                    refine j_bipush X (11 : Int32) dL_act_264 (by rfl) ?_
                    refine j_ishr X dL_act_266 ?_
                    refine j_bipush X (103 : Int32) dL_act_267 (by rfl) ?_
                    refine j_call0S X 96 4134 (c_L_low X.tr (memG 0 358 (kD κ) (kB κ) S X9) (zD (kD κ)) ((p1 >>> ((11 : Int32) &&& 31))) (103 : Int32)) me_L_low ml_L_80 st_L_low dL_act_269 (rest := [.int x54, .int x13, .ref (kB κ + 0)]) rfl rfl (by decide) (by decide) (Nat.le_of_ble_eq_true rfl) (fun v60 u63 M62 hM61 => ?_)
                    subst M62
                    refine j_st (st1 := [.int v60, .int x54, .int x13, .ref (kB κ + 0)]) rfl ?_
                    refine j_iconst X (1 : Int32) dL_act_272 (by rfl) ?_
                    refine j_isub X dL_act_273 ?_
                    refine j_goto X 285 dL_act_274 (by decide) ?_
                    refine j_lv [] rfl ?_
                    exact hk55 ((v60 - (1 : Int32)))
              · refine j_if_eq X 251 dL_act_235 (by decide) ?_ ?_
                · refine j_iload_n X 2 rfl dL_act_251 rfl ?_
                  refine j_bipush X (9 : Int32) dL_act_252 (by rfl) ?_
                  refine j_ishr X dL_act_254 ?_
                  refine j_iconst X (3 : Int32) dL_act_255 (by rfl) ?_
                  refine j_call0S X 96 4134 (c_L_low X.tr (memG 0 358 (kD κ) (kB κ) S X9) (zD (kD κ)) ((p1 >>> ((9 : Int32) &&& 31))) (3 : Int32)) me_L_low ml_L_80 st_L_low dL_act_256 (rest := [.int x13, .ref (kB κ + 0)]) rfl rfl (by decide) (by decide) (Nat.le_of_ble_eq_true rfl) (fun v46 u49 M48 hM47 => ?_)
                  subst M48
                  refine j_st (st1 := [.int v46, .int x13, .ref (kB κ + 0)]) rfl ?_
                  refine j_lv [2, 3] rfl ?_
                  exact hk45 v46
                · refine j_iload_n X 2 rfl dL_act_238 rfl ?_
                  refine j_bipush X (9 : Int32) dL_act_239 (by rfl) ?_
                  refine j_ishr X dL_act_241 ?_
                  refine j_iconst X (5 : Int32) dL_act_242 (by rfl) ?_
                  refine j_call0S X 96 4134 (c_L_low X.tr (memG 0 358 (kD κ) (kB κ) S X9) (zD (kD κ)) ((p1 >>> ((9 : Int32) &&& 31))) (5 : Int32)) me_L_low ml_L_80 st_L_low dL_act_243 (rest := [.int x13, .ref (kB κ + 0)]) rfl rfl (by decide) (by decide) (Nat.le_of_ble_eq_true rfl) (fun v50 u53 M52 hM51 => ?_)
                  subst M52
                  refine j_st (st1 := [.int v50, .int x13, .ref (kB κ + 0)]) rfl ?_
                  refine j_iconst X (1 : Int32) dL_act_246 (by rfl) ?_
                  refine j_isub X dL_act_247 ?_
                  refine j_goto X 259 dL_act_248 (by decide) ?_
                  refine j_lv [2, 3] rfl ?_
                  exact hk45 ((v50 - (1 : Int32)))
            · refine j_ite (fun hc130_1 => ?_) (fun hc130_1 => ?_)
              · refine j_table (off := 159) X 289 dL_act_130 (by rw [hc130_1]; decide) (by rw [hc130_1]; decide) (by rw [hc130_1]; rfl) (by decide) ?_
                refine j_aload_n X 1 rfl dL_act_289 rfl ?_
                refine j_iload_n X 4 rfl dL_act_290 rfl ?_
                refine j_iload_n X 3 rfl dL_act_291 rfl ?_
                refine j_join (fun k70 => ∀ (x79 : Int32), J κ 7 rm_L_act (jQf κ rm_L_act rvI (fun (S9 : jSL) M9 => ∃ X1, M9 = memG 0 358 (kD κ) (kB κ) S9.1 X1 ∧ LogK (kD κ) (kB κ) (kT κ) X9 S9.2 X1) (zD (kD κ))) (k70 x79) (memG 0 358 (kD κ) (kB κ) S X9) (zD (kD κ)) 96 4134 [(1, .int p1)] 318 [.int x79, .int x13, .ref (kB κ + 0)]) ?_ (fun k70 hk70 => ?_)
                · intro x79
                  refine j_iload_n X 0 rfl dL_act_318 rfl ?_
                  refine j_bipush X (12 : Int32) dL_act_319 (by rfl) ?_
                  refine j_ishr X dL_act_321 ?_
                  refine j_iconst X (1 : Int32) dL_act_322 (by rfl) ?_
                  refine j_iand X dL_act_323 ?_
                  refine j_iconst X (1 : Int32) dL_act_324 (by rfl) ?_
                  refine j_join (fun k80 => ∀ (x81 : Int32), J κ 7 rm_L_act (jQf κ rm_L_act rvI (fun (S9 : jSL) M9 => ∃ X1, M9 = memG 0 358 (kD κ) (kB κ) S9.1 X1 ∧ LogK (kD κ) (kB κ) (kT κ) X9 S9.2 X1) (zD (kD κ))) (k80 x81) (memG 0 358 (kD κ) (kB κ) S X9) (zD (kD κ)) 96 4134 [] 333 [.int x81, .int x79, .int x13, .ref (kB κ + 0)]) ?_ (fun k80 hk80 => ?_)
                  · intro x81
                    refine j_call0SH X 94 4122 (c_L_setTag X.tr S X9 L hK.1 x13 x79 x81) mh_L_setTag ml_L_88 st_L_setTag dL_act_333 (rest := []) rfl rfl (by decide) (by decide) (Nat.le_of_ble_eq_true rfl) (fun v82 S83 M86 hM85 => ?_)
                    obtain ⟨X84, rfl, hKX841⟩ := hM85
                    have hKX84 := (hK).trans hKX841
                    refine j_st (st1 := [.int v82]) rfl ?_
                    exact j_iret X dL_act_336 ⟨_, rfl, hKX84⟩ (fun _ h => h)
                  · refine j_icmp_ne X 332 dL_act_325 (by decide) ?_ ?_
                    · refine j_iconst X (1 : Int32) dL_act_328 (by rfl) ?_
                      refine j_goto X 333 dL_act_329 (by decide) ?_
                      refine j_lv [] rfl ?_
                      exact hk80 (1 : Int32)
                    · refine j_iconst X (0 : Int32) dL_act_332 (by rfl) ?_
                      refine j_lv [] rfl ?_
                      exact hk80 (0 : Int32)
                · refine j_if_eq X 309 dL_act_292 (by decide) ?_ ?_
                  · refine j_iload_n X 2 rfl dL_act_309 rfl ?_
                    refine j_bipush X (9 : Int32) dL_act_310 (by rfl) ?_
                    refine j_ishr X dL_act_312 ?_
                    refine j_bipush X (6 : Int32) dL_act_313 (by rfl) ?_
                    refine j_call0S X 96 4134 (c_L_low X.tr (memG 0 358 (kD κ) (kB κ) S X9) (zD (kD κ)) ((p1 >>> ((9 : Int32) &&& 31))) (6 : Int32)) me_L_low ml_L_80 st_L_low dL_act_315 (rest := [.int x13, .ref (kB κ + 0)]) rfl rfl (by decide) (by decide) (Nat.le_of_ble_eq_true rfl) (fun v71 u74 M73 hM72 => ?_)
                    subst M73
                    refine j_st (st1 := [.int v71, .int x13, .ref (kB κ + 0)]) rfl ?_
                    refine j_lv [2] rfl ?_
                    exact hk70 v71
                  · refine j_iload_n X 2 rfl dL_act_295 rfl ?_
                    refine j_bipush X (9 : Int32) dL_act_296 (by rfl) ?_
                    refine j_ishr X dL_act_298 ?_
                    refine j_bipush X (10 : Int32) dL_act_299 (by rfl) ?_
                    refine j_call0S X 96 4134 (c_L_low X.tr (memG 0 358 (kD κ) (kB κ) S X9) (zD (kD κ)) ((p1 >>> ((9 : Int32) &&& 31))) (10 : Int32)) me_L_low ml_L_80 st_L_low dL_act_301 (rest := [.int x13, .ref (kB κ + 0)]) rfl rfl (by decide) (by decide) (Nat.le_of_ble_eq_true rfl) (fun v75 u78 M77 hM76 => ?_)
                    subst M77
                    refine j_st (st1 := [.int v75, .int x13, .ref (kB κ + 0)]) rfl ?_
                    refine j_iconst X (1 : Int32) dL_act_304 (by rfl) ?_
                    refine j_isub X dL_act_305 ?_
                    refine j_goto X 318 dL_act_306 (by decide) ?_
                    refine j_lv [2] rfl ?_
                    exact hk70 ((v75 - (1 : Int32)))
              · refine j_ite (fun hc130_2 => ?_) (fun hc130_2 => ?_)
                · refine j_table (off := 207) X 337 dL_act_130 (by rw [hc130_2]; decide) (by rw [hc130_2]; decide) (by rw [hc130_2]; rfl) (by decide) ?_
                  refine j_aload_n X 1 rfl dL_act_337 rfl ?_
                  refine j_iload X 0 rfl dL_act_338 ?_
                  refine j_iload_n X 3 rfl dL_act_340 rfl ?_
                  refine j_join (fun k87 => ∀ (x96 : Int32), J κ 7 rm_L_act (jQf κ rm_L_act rvI (fun (S9 : jSL) M9 => ∃ X1, M9 = memG 0 358 (kD κ) (kB κ) S9.1 X1 ∧ LogK (kD κ) (kB κ) (kT κ) X9 S9.2 X1) (zD (kD κ))) (k87 x96) (memG 0 358 (kD κ) (kB κ) S X9) (zD (kD κ)) 96 4134 [] 370 [.int x96, .int x43, .ref (kB κ + 0)]) ?_ (fun k87 hk87 => ?_)
                  · intro x96
                    refine j_call0SH X 93 4116 (c_L_type X.tr S X9 L hK.1 x43 x96) mh_L_type ml_L_91 st_L_type dL_act_370 (rest := []) rfl rfl (by decide) (by decide) (Nat.le_of_ble_eq_true rfl) (fun v97 S98 M101 hM100 => ?_)
                    obtain ⟨X99, rfl, hKX991⟩ := hM100
                    have hKX99 := (hK).trans hKX991
                    refine j_st (st1 := [.int v97]) rfl ?_
                    exact j_iret X dL_act_373 ⟨_, rfl, hKX99⟩ (fun _ h => h)
                  · refine j_if_eq X 359 dL_act_341 (by decide) ?_ ?_
                    · refine j_bipush X (38 : Int32) dL_act_359 (by rfl) ?_
                      refine j_iload_n X 2 rfl dL_act_361 rfl ?_
                      refine j_bipush X (9 : Int32) dL_act_362 (by rfl) ?_
                      refine j_ishr X dL_act_364 ?_
                      refine j_iconst X (5 : Int32) dL_act_365 (by rfl) ?_
                      refine j_call0S X 96 4134 (c_L_low X.tr (memG 0 358 (kD κ) (kB κ) S X9) (zD (kD κ)) ((p1 >>> ((9 : Int32) &&& 31))) (5 : Int32)) me_L_low ml_L_80 st_L_low dL_act_366 (rest := [.int (38 : Int32), .int x43, .ref (kB κ + 0)]) rfl rfl (by decide) (by decide) (Nat.le_of_ble_eq_true rfl) (fun v88 u91 M90 hM89 => ?_)
                      subst M90
                      refine j_st (st1 := [.int v88, .int (38 : Int32), .int x43, .ref (kB κ + 0)]) rfl ?_
                      refine j_iadd X dL_act_369 ?_
                      refine j_lv [] rfl ?_
                      exact hk87 (((38 : Int32) + v88))
                    · refine j_bipush X (31 : Int32) dL_act_344 (by rfl) ?_
                      refine j_iload_n X 2 rfl dL_act_346 rfl ?_
                      refine j_bipush X (9 : Int32) dL_act_347 (by rfl) ?_
                      refine j_ishr X dL_act_349 ?_
                      refine j_bipush X (98 : Int32) dL_act_350 (by rfl) ?_
                      refine j_call0S X 96 4134 (c_L_low X.tr (memG 0 358 (kD κ) (kB κ) S X9) (zD (kD κ)) ((p1 >>> ((9 : Int32) &&& 31))) (98 : Int32)) me_L_low ml_L_80 st_L_low dL_act_352 (rest := [.int (31 : Int32), .int x43, .ref (kB κ + 0)]) rfl rfl (by decide) (by decide) (Nat.le_of_ble_eq_true rfl) (fun v92 u95 M94 hM93 => ?_)
                      subst M94
                      refine j_st (st1 := [.int v92, .int (31 : Int32), .int x43, .ref (kB κ + 0)]) rfl ?_
                      refine j_iadd X dL_act_355 ?_
                      refine j_goto X 370 dL_act_356 (by decide) ?_
                      refine j_lv [] rfl ?_
                      exact hk87 (((31 : Int32) + v92))
                · refine j_ite (fun hc130_3 => ?_) (fun hc130_3 => ?_)
                  · refine j_table (off := 244) X 374 dL_act_130 (by rw [hc130_3]; decide) (by rw [hc130_3]; decide) (by rw [hc130_3]; rfl) (by decide) ?_
                    refine j_iload_n X 3 rfl dL_act_374 rfl ?_
                    refine j_if_eq X 396 dL_act_375 (by decide) ?_ ?_
                    · refine j_aload_n X 1 rfl dL_act_396 rfl ?_
                      refine j_iload X 0 rfl dL_act_397 ?_
                      refine j_iload_n X 2 rfl dL_act_399 rfl ?_
                      refine j_bipush X (8 : Int32) dL_act_400 (by rfl) ?_
                      refine j_ishr X dL_act_402 ?_
                      refine j_call0S X 67 3960 (c_L_typeTest X.tr S X9 (zD (kD κ)) x43 ((p1 >>> ((8 : Int32) &&& 31)))) me_L_typeTest ml_L_96 st_L_typeTest dL_act_403 (rest := []) rfl rfl (by decide) (by decide) (Nat.le_of_ble_eq_true rfl) (fun v102 S103 M105 hM104 => ?_)
                      subst M105
                      refine j_st (st1 := [.int v102]) rfl ?_
                      exact j_iret X dL_act_406 ⟨_, rfl, hK⟩ (fun _ h => h)
                    · refine j_aload_n X 1 rfl dL_act_378 rfl ?_
                      refine j_iload X 0 rfl dL_act_379 ?_
                      refine j_iload_n X 2 rfl dL_act_381 rfl ?_
                      refine j_bipush X (9 : Int32) dL_act_382 (by rfl) ?_
                      refine j_ishr X dL_act_384 ?_
                      refine j_bipush X (70 : Int32) dL_act_385 (by rfl) ?_
                      refine j_call0S X 96 4134 (c_L_low X.tr (memG 0 358 (kD κ) (kB κ) S X9) (zD (kD κ)) ((p1 >>> ((9 : Int32) &&& 31))) (70 : Int32)) me_L_low ml_L_80 st_L_low dL_act_387 (rest := [.int x43, .ref (kB κ + 0)]) rfl rfl (by decide) (by decide) (Nat.le_of_ble_eq_true rfl) (fun v106 u114 M113 hM112 => ?_)
                      subst M113
                      refine j_st (st1 := [.int v106, .int x43, .ref (kB κ + 0)]) rfl ?_
                      refine j_call0SH X 94 4122 (c_L_erase X.tr S X9 L hK.1 x43 v106) mh_L_erase ml_L_94 st_L_erase dL_act_390 (rest := []) rfl rfl (by decide) (by decide) (Nat.le_of_ble_eq_true rfl) (fun v107 S108 M111 hM110 => ?_)
                      obtain ⟨X109, rfl, hKX1091⟩ := hM110
                      have hKX109 := (hK).trans hKX1091
                      refine j_st (st1 := [.int v107]) rfl ?_
                      refine j_goto X 406 dL_act_393 (by decide) ?_
                      exact j_iret X dL_act_406 ⟨_, rfl, hKX109⟩ (fun _ h => h)
                  · refine j_ite (fun hc130_4 => ?_) (fun hc130_4 => ?_)
                    · refine j_table (off := 244) X 374 dL_act_130 (by rw [hc130_4]; decide) (by rw [hc130_4]; decide) (by rw [hc130_4]; rfl) (by decide) ?_
                      refine j_iload_n X 3 rfl dL_act_374 rfl ?_
                      refine j_if_eq X 396 dL_act_375 (by decide) ?_ ?_
                      · refine j_aload_n X 1 rfl dL_act_396 rfl ?_
                        refine j_iload X 0 rfl dL_act_397 ?_
                        refine j_iload_n X 2 rfl dL_act_399 rfl ?_
                        refine j_bipush X (8 : Int32) dL_act_400 (by rfl) ?_
                        refine j_ishr X dL_act_402 ?_
                        refine j_call0S X 67 3960 (c_L_typeTest X.tr S X9 (zD (kD κ)) x43 ((p1 >>> ((8 : Int32) &&& 31)))) me_L_typeTest ml_L_96 st_L_typeTest dL_act_403 (rest := []) rfl rfl (by decide) (by decide) (Nat.le_of_ble_eq_true rfl) (fun v115 S116 M118 hM117 => ?_)
                        subst M118
                        refine j_st (st1 := [.int v115]) rfl ?_
                        exact j_iret X dL_act_406 ⟨_, rfl, hK⟩ (fun _ h => h)
                      · refine j_aload_n X 1 rfl dL_act_378 rfl ?_
                        refine j_iload X 0 rfl dL_act_379 ?_
                        refine j_iload_n X 2 rfl dL_act_381 rfl ?_
                        refine j_bipush X (9 : Int32) dL_act_382 (by rfl) ?_
                        refine j_ishr X dL_act_384 ?_
                        refine j_bipush X (70 : Int32) dL_act_385 (by rfl) ?_
                        refine j_call0S X 96 4134 (c_L_low X.tr (memG 0 358 (kD κ) (kB κ) S X9) (zD (kD κ)) ((p1 >>> ((9 : Int32) &&& 31))) (70 : Int32)) me_L_low ml_L_80 st_L_low dL_act_387 (rest := [.int x43, .ref (kB κ + 0)]) rfl rfl (by decide) (by decide) (Nat.le_of_ble_eq_true rfl) (fun v119 u127 M126 hM125 => ?_)
                        subst M126
                        refine j_st (st1 := [.int v119, .int x43, .ref (kB κ + 0)]) rfl ?_
                        refine j_call0SH X 94 4122 (c_L_erase X.tr S X9 L hK.1 x43 v119) mh_L_erase ml_L_94 st_L_erase dL_act_390 (rest := []) rfl rfl (by decide) (by decide) (Nat.le_of_ble_eq_true rfl) (fun v120 S121 M124 hM123 => ?_)
                        obtain ⟨X122, rfl, hKX1221⟩ := hM123
                        have hKX122 := (hK).trans hKX1221
                        refine j_st (st1 := [.int v120]) rfl ?_
                        refine j_goto X 406 dL_act_393 (by decide) ?_
                        exact j_iret X dL_act_406 ⟨_, rfl, hKX122⟩ (fun _ h => h)
                    · refine j_ite (fun hc130_5 => ?_) (fun hc130_5 => ?_)
                      · refine j_table (off := 244) X 374 dL_act_130 (by rw [hc130_5]; decide) (by rw [hc130_5]; decide) (by rw [hc130_5]; rfl) (by decide) ?_
                        refine j_iload_n X 3 rfl dL_act_374 rfl ?_
                        refine j_if_eq X 396 dL_act_375 (by decide) ?_ ?_
                        · refine j_aload_n X 1 rfl dL_act_396 rfl ?_
                          refine j_iload X 0 rfl dL_act_397 ?_
                          refine j_iload_n X 2 rfl dL_act_399 rfl ?_
                          refine j_bipush X (8 : Int32) dL_act_400 (by rfl) ?_
                          refine j_ishr X dL_act_402 ?_
                          refine j_call0S X 67 3960 (c_L_typeTest X.tr S X9 (zD (kD κ)) x43 ((p1 >>> ((8 : Int32) &&& 31)))) me_L_typeTest ml_L_96 st_L_typeTest dL_act_403 (rest := []) rfl rfl (by decide) (by decide) (Nat.le_of_ble_eq_true rfl) (fun v128 S129 M131 hM130 => ?_)
                          subst M131
                          refine j_st (st1 := [.int v128]) rfl ?_
                          exact j_iret X dL_act_406 ⟨_, rfl, hK⟩ (fun _ h => h)
                        · refine j_aload_n X 1 rfl dL_act_378 rfl ?_
                          refine j_iload X 0 rfl dL_act_379 ?_
                          refine j_iload_n X 2 rfl dL_act_381 rfl ?_
                          refine j_bipush X (9 : Int32) dL_act_382 (by rfl) ?_
                          refine j_ishr X dL_act_384 ?_
                          refine j_bipush X (70 : Int32) dL_act_385 (by rfl) ?_
                          refine j_call0S X 96 4134 (c_L_low X.tr (memG 0 358 (kD κ) (kB κ) S X9) (zD (kD κ)) ((p1 >>> ((9 : Int32) &&& 31))) (70 : Int32)) me_L_low ml_L_80 st_L_low dL_act_387 (rest := [.int x43, .ref (kB κ + 0)]) rfl rfl (by decide) (by decide) (Nat.le_of_ble_eq_true rfl) (fun v132 u140 M139 hM138 => ?_)
                          subst M139
                          refine j_st (st1 := [.int v132, .int x43, .ref (kB κ + 0)]) rfl ?_
                          refine j_call0SH X 94 4122 (c_L_erase X.tr S X9 L hK.1 x43 v132) mh_L_erase ml_L_94 st_L_erase dL_act_390 (rest := []) rfl rfl (by decide) (by decide) (Nat.le_of_ble_eq_true rfl) (fun v133 S134 M137 hM136 => ?_)
                          obtain ⟨X135, rfl, hKX1351⟩ := hM136
                          have hKX135 := (hK).trans hKX1351
                          refine j_st (st1 := [.int v133]) rfl ?_
                          refine j_goto X 406 dL_act_393 (by decide) ?_
                          exact j_iret X dL_act_406 ⟨_, rfl, hKX135⟩ (fun _ h => h)
                      · refine j_ite (fun hc130_6 => ?_) (fun hc130_6 => ?_)
                        · refine j_table (off := 277) X 407 dL_act_130 (by rw [hc130_6]; decide) (by rw [hc130_6]; decide) (by rw [hc130_6]; rfl) (by decide) ?_
                          refine j_aload_n X 1 rfl dL_act_407 rfl ?_
                          refine j_iload X 0 rfl dL_act_408 ?_
                          refine j_call0SH X 94 4122 (c_L_set X.tr S X9 L hK.1 x43) mh_L_set ml_L_99 st_L_set dL_act_410 (rest := []) rfl rfl (by decide) (by decide) (Nat.le_of_ble_eq_true rfl) (fun v141 S142 M145 hM144 => ?_)
                          obtain ⟨X143, rfl, hKX1431⟩ := hM144
                          have hKX143 := (hK).trans hKX1431
                          refine j_st (st1 := [.int v141]) rfl ?_
                          exact j_iret X dL_act_413 ⟨_, rfl, hKX143⟩ (fun _ h => h)
                        · refine j_ite (fun hc130_7 => ?_) (fun hc130_7 => ?_)
                          · refine j_table (off := 277) X 407 dL_act_130 (by rw [hc130_7]; decide) (by rw [hc130_7]; decide) (by rw [hc130_7]; rfl) (by decide) ?_
                            refine j_aload_n X 1 rfl dL_act_407 rfl ?_
                            refine j_iload X 0 rfl dL_act_408 ?_
                            refine j_call0SH X 94 4122 (c_L_set X.tr S X9 L hK.1 x43) mh_L_set ml_L_99 st_L_set dL_act_410 (rest := []) rfl rfl (by decide) (by decide) (Nat.le_of_ble_eq_true rfl) (fun v146 S147 M150 hM149 => ?_)
                            obtain ⟨X148, rfl, hKX1481⟩ := hM149
                            have hKX148 := (hK).trans hKX1481
                            refine j_st (st1 := [.int v146]) rfl ?_
                            exact j_iret X dL_act_413 ⟨_, rfl, hKX148⟩ (fun _ h => h)
                          · refine j_ite (fun hc130_8 => ?_) (fun hc130_8 => ?_)
                            · refine j_table (off := 284) X 414 dL_act_130 (by rw [hc130_8]; decide) (by rw [hc130_8]; decide) (by rw [hc130_8]; rfl) (by decide) ?_
                              refine j_aload_n X 1 rfl dL_act_414 rfl ?_
                              refine j_iload X 0 rfl dL_act_415 ?_
                              refine j_call0SH X 94 4122 (c_L_wouldMove X.tr S X9 L hK.1 x43) mh_L_wouldMove ml_L_102 st_L_wouldMove dL_act_417 (rest := []) rfl rfl (by decide) (by decide) (Nat.le_of_ble_eq_true rfl) (fun v151 S152 M155 hM154 => ?_)
                              obtain ⟨X153, rfl, hKX1531⟩ := hM154
                              have hKX153 := (hK).trans hKX1531
                              refine j_st (st1 := [.int v151]) rfl ?_
                              exact j_iret X dL_act_420 ⟨_, rfl, hKX153⟩ (fun _ h => h)
                            · refine j_ite (fun hc130_9 => ?_) (fun hc130_9 => ?_)
                              · refine j_table (off := 291) X 421 dL_act_130 (by rw [hc130_9]; decide) (by rw [hc130_9]; decide) (by rw [hc130_9]; rfl) (by decide) ?_
                                refine j_aload_n X 1 rfl dL_act_421 rfl ?_
                                refine j_iload X 5 rfl dL_act_422 ?_
                                refine j_iload_n X 3 rfl dL_act_424 rfl ?_
                                refine j_join (fun k156 => ∀ (x161 : Int32), J κ 7 rm_L_act (jQf κ rm_L_act rvI (fun (S9 : jSL) M9 => ∃ X1, M9 = memG 0 358 (kD κ) (kB κ) S9.1 X1 ∧ LogK (kD κ) (kB κ) (kT κ) X9 S9.2 X1) (zD (kD κ))) (k156 x161) (memG 0 358 (kD κ) (kB κ) S X9) (zD (kD κ)) 96 4134 [(1, .int p1), (2, .int x3)] 442 [.int x161, .int x23, .ref (kB κ + 0)]) ?_ (fun k156 hk156 => ?_)
                                · intro x161
                                  refine j_iload_n X 0 rfl dL_act_442 rfl ?_
                                  refine j_bipush X (12 : Int32) dL_act_443 (by rfl) ?_
                                  refine j_ishr X dL_act_445 ?_
                                  refine j_iload_n X 1 rfl dL_act_446 rfl ?_
                                  refine j_join (fun k162 => ∀ (x163 : Int32), J κ 7 rm_L_act (jQf κ rm_L_act rvI (fun (S9 : jSL) M9 => ∃ X1, M9 = memG 0 358 (kD κ) (kB κ) S9.1 X1 ∧ LogK (kD κ) (kB κ) (kT κ) X9 S9.2 X1) (zD (kD κ))) (k162 x163) (memG 0 358 (kD κ) (kB κ) S X9) (zD (kD κ)) 96 4134 [(1, .int p1), (2, .int x3)] 456 [.int x163, .int (p1 >>> ((12 : Int32) &&& 31)), .int x161, .int x23, .ref (kB κ + 0)]) ?_ (fun k162 hk162 => ?_)
                                  · intro x163
                                    refine j_call0S X 96 4134 (c_L_low X.tr (memG 0 358 (kD κ) (kB κ) S X9) (zD (kD κ)) ((p1 >>> ((12 : Int32) &&& 31))) x163) me_L_low ml_L_80 st_L_low dL_act_456 (rest := [.int x161, .int x23, .ref (kB κ + 0)]) rfl rfl (by decide) (by decide) (Nat.le_of_ble_eq_true rfl) (fun v164 u182 M181 hM180 => ?_)
                                    subst M181
                                    refine j_st (st1 := [.int v164, .int x161, .int x23, .ref (kB κ + 0)]) rfl ?_
                                    refine j_iload_n X 1 rfl dL_act_459 rfl ?_
                                    refine j_join (fun k165 => ∀ (x174 : Int32), J κ 7 rm_L_act (jQf κ rm_L_act rvI (fun (S9 : jSL) M9 => ∃ X1, M9 = memG 0 358 (kD κ) (kB κ) S9.1 X1 ∧ LogK (kD κ) (kB κ) (kT κ) X9 S9.2 X1) (zD (kD κ))) (k165 x174) (memG 0 358 (kD κ) (kB κ) S X9) (zD (kD κ)) 96 4134 [] 486 [.int x174, .int v164, .int x161, .int x23, .ref (kB κ + 0)]) ?_ (fun k165 hk165 => ?_)
                                    · intro x174
                                      refine j_call0SH X 92 4110 (c_L_addRule X.tr S X9 L hK.1 x23 x161 v164 x174) mh_L_addRule ml_L_104 st_L_addRule dL_act_486 (rest := []) rfl rfl (by decide) (by decide) (Nat.le_of_ble_eq_true rfl) (fun v175 S176 M179 hM178 => ?_)
                                      obtain ⟨X177, rfl, hKX1771⟩ := hM178
                                      have hKX177 := (hK).trans hKX1771
                                      refine j_st (st1 := [.int v175]) rfl ?_
                                      exact j_iret X dL_act_489 ⟨_, rfl, hKX177⟩ (fun _ h => h)
                                    · refine j_if_eq X 477 dL_act_460 (by decide) ?_ ?_
                                      · refine j_iload_n X 0 rfl dL_act_477 rfl ?_
                                        refine j_bipush X (15 : Int32) dL_act_478 (by rfl) ?_
                                        refine j_ishr X dL_act_480 ?_
                                        refine j_bipush X (8 : Int32) dL_act_481 (by rfl) ?_
                                        refine j_call0S X 96 4134 (c_L_low X.tr (memG 0 358 (kD κ) (kB κ) S X9) (zD (kD κ)) ((p1 >>> ((15 : Int32) &&& 31))) (8 : Int32)) me_L_low ml_L_80 st_L_low dL_act_483 (rest := [.int v164, .int x161, .int x23, .ref (kB κ + 0)]) rfl rfl (by decide) (by decide) (Nat.le_of_ble_eq_true rfl) (fun v166 u169 M168 hM167 => ?_)
                                        subst M168
                                        refine j_st (st1 := [.int v166, .int v164, .int x161, .int x23, .ref (kB κ + 0)]) rfl ?_
                                        refine j_lv [] rfl ?_
                                        exact hk165 v166
                                      · refine j_iload_n X 0 rfl dL_act_463 rfl ?_
                                        refine j_bipush X (15 : Int32) dL_act_464 (by rfl) ?_
                                        refine j_ishr X dL_act_466 ?_
                                        refine j_bipush X (12 : Int32) dL_act_467 (by rfl) ?_
                                        refine j_call0S X 96 4134 (c_L_low X.tr (memG 0 358 (kD κ) (kB κ) S X9) (zD (kD κ)) ((p1 >>> ((15 : Int32) &&& 31))) (12 : Int32)) me_L_low ml_L_80 st_L_low dL_act_469 (rest := [.int v164, .int x161, .int x23, .ref (kB κ + 0)]) rfl rfl (by decide) (by decide) (Nat.le_of_ble_eq_true rfl) (fun v170 u173 M172 hM171 => ?_)
                                        subst M172
                                        refine j_st (st1 := [.int v170, .int v164, .int x161, .int x23, .ref (kB κ + 0)]) rfl ?_
                                        refine j_iconst X (1 : Int32) dL_act_472 (by rfl) ?_
                                        refine j_isub X dL_act_473 ?_
                                        refine j_goto X 486 dL_act_474 (by decide) ?_
                                        refine j_lv [] rfl ?_
                                        exact hk165 ((v170 - (1 : Int32)))
                                  · refine j_if_eq X 455 dL_act_447 (by decide) ?_ ?_
                                    · refine j_iconst X (4 : Int32) dL_act_455 (by rfl) ?_
                                      exact hk162 (4 : Int32)
                                    · refine j_bipush X (8 : Int32) dL_act_450 (by rfl) ?_
                                      refine j_goto X 456 dL_act_452 (by decide) ?_
                                      exact hk162 (8 : Int32)
                                · refine j_if_eq X 441 dL_act_425 (by decide) ?_ ?_
                                  · refine j_iconst X (0 : Int32) dL_act_441 (by rfl) ?_
                                    refine j_lv [2, 3] rfl ?_
                                    exact hk156 (0 : Int32)
                                  · refine j_iload_n X 2 rfl dL_act_428 rfl ?_
                                    refine j_iconst X (4 : Int32) dL_act_429 (by rfl) ?_
                                    refine j_ishr X dL_act_430 ?_
                                    refine j_bipush X (8 : Int32) dL_act_431 (by rfl) ?_
                                    refine j_call0S X 96 4134 (c_L_low X.tr (memG 0 358 (kD κ) (kB κ) S X9) (zD (kD κ)) ((p1 >>> ((4 : Int32) &&& 31))) (8 : Int32)) me_L_low ml_L_80 st_L_low dL_act_433 (rest := [.int x23, .ref (kB κ + 0)]) rfl rfl (by decide) (by decide) (Nat.le_of_ble_eq_true rfl) (fun v157 u160 M159 hM158 => ?_)
                                    subst M159
                                    refine j_st (st1 := [.int v157, .int x23, .ref (kB κ + 0)]) rfl ?_
                                    refine j_iconst X (1 : Int32) dL_act_436 (by rfl) ?_
                                    refine j_isub X dL_act_437 ?_
                                    refine j_goto X 442 dL_act_438 (by decide) ?_
                                    refine j_lv [2, 3] rfl ?_
                                    exact hk156 ((v157 - (1 : Int32)))
                              · refine j_ite (fun hc130_10 => ?_) (fun hc130_10 => ?_)
                                · refine j_table (off := 291) X 421 dL_act_130 (by rw [hc130_10]; decide) (by rw [hc130_10]; decide) (by rw [hc130_10]; rfl) (by decide) ?_
                                  refine j_aload_n X 1 rfl dL_act_421 rfl ?_
                                  refine j_iload X 5 rfl dL_act_422 ?_
                                  refine j_iload_n X 3 rfl dL_act_424 rfl ?_
                                  refine j_join (fun k183 => ∀ (x188 : Int32), J κ 7 rm_L_act (jQf κ rm_L_act rvI (fun (S9 : jSL) M9 => ∃ X1, M9 = memG 0 358 (kD κ) (kB κ) S9.1 X1 ∧ LogK (kD κ) (kB κ) (kT κ) X9 S9.2 X1) (zD (kD κ))) (k183 x188) (memG 0 358 (kD κ) (kB κ) S X9) (zD (kD κ)) 96 4134 [(1, .int p1), (2, .int x3)] 442 [.int x188, .int x23, .ref (kB κ + 0)]) ?_ (fun k183 hk183 => ?_)
                                  · intro x188
                                    refine j_iload_n X 0 rfl dL_act_442 rfl ?_
                                    refine j_bipush X (12 : Int32) dL_act_443 (by rfl) ?_
                                    refine j_ishr X dL_act_445 ?_
                                    refine j_iload_n X 1 rfl dL_act_446 rfl ?_
                                    refine j_join (fun k189 => ∀ (x190 : Int32), J κ 7 rm_L_act (jQf κ rm_L_act rvI (fun (S9 : jSL) M9 => ∃ X1, M9 = memG 0 358 (kD κ) (kB κ) S9.1 X1 ∧ LogK (kD κ) (kB κ) (kT κ) X9 S9.2 X1) (zD (kD κ))) (k189 x190) (memG 0 358 (kD κ) (kB κ) S X9) (zD (kD κ)) 96 4134 [(1, .int p1), (2, .int x3)] 456 [.int x190, .int (p1 >>> ((12 : Int32) &&& 31)), .int x188, .int x23, .ref (kB κ + 0)]) ?_ (fun k189 hk189 => ?_)
                                    · intro x190
                                      refine j_call0S X 96 4134 (c_L_low X.tr (memG 0 358 (kD κ) (kB κ) S X9) (zD (kD κ)) ((p1 >>> ((12 : Int32) &&& 31))) x190) me_L_low ml_L_80 st_L_low dL_act_456 (rest := [.int x188, .int x23, .ref (kB κ + 0)]) rfl rfl (by decide) (by decide) (Nat.le_of_ble_eq_true rfl) (fun v191 u209 M208 hM207 => ?_)
                                      subst M208
                                      refine j_st (st1 := [.int v191, .int x188, .int x23, .ref (kB κ + 0)]) rfl ?_
                                      refine j_iload_n X 1 rfl dL_act_459 rfl ?_
                                      refine j_join (fun k192 => ∀ (x201 : Int32), J κ 7 rm_L_act (jQf κ rm_L_act rvI (fun (S9 : jSL) M9 => ∃ X1, M9 = memG 0 358 (kD κ) (kB κ) S9.1 X1 ∧ LogK (kD κ) (kB κ) (kT κ) X9 S9.2 X1) (zD (kD κ))) (k192 x201) (memG 0 358 (kD κ) (kB κ) S X9) (zD (kD κ)) 96 4134 [] 486 [.int x201, .int v191, .int x188, .int x23, .ref (kB κ + 0)]) ?_ (fun k192 hk192 => ?_)
                                      · intro x201
                                        refine j_call0SH X 92 4110 (c_L_addRule X.tr S X9 L hK.1 x23 x188 v191 x201) mh_L_addRule ml_L_104 st_L_addRule dL_act_486 (rest := []) rfl rfl (by decide) (by decide) (Nat.le_of_ble_eq_true rfl) (fun v202 S203 M206 hM205 => ?_)
                                        obtain ⟨X204, rfl, hKX2041⟩ := hM205
                                        have hKX204 := (hK).trans hKX2041
                                        refine j_st (st1 := [.int v202]) rfl ?_
                                        exact j_iret X dL_act_489 ⟨_, rfl, hKX204⟩ (fun _ h => h)
                                      · refine j_if_eq X 477 dL_act_460 (by decide) ?_ ?_
                                        · refine j_iload_n X 0 rfl dL_act_477 rfl ?_
                                          refine j_bipush X (15 : Int32) dL_act_478 (by rfl) ?_
                                          refine j_ishr X dL_act_480 ?_
                                          refine j_bipush X (8 : Int32) dL_act_481 (by rfl) ?_
                                          refine j_call0S X 96 4134 (c_L_low X.tr (memG 0 358 (kD κ) (kB κ) S X9) (zD (kD κ)) ((p1 >>> ((15 : Int32) &&& 31))) (8 : Int32)) me_L_low ml_L_80 st_L_low dL_act_483 (rest := [.int v191, .int x188, .int x23, .ref (kB κ + 0)]) rfl rfl (by decide) (by decide) (Nat.le_of_ble_eq_true rfl) (fun v193 u196 M195 hM194 => ?_)
                                          subst M195
                                          refine j_st (st1 := [.int v193, .int v191, .int x188, .int x23, .ref (kB κ + 0)]) rfl ?_
                                          refine j_lv [] rfl ?_
                                          exact hk192 v193
                                        · refine j_iload_n X 0 rfl dL_act_463 rfl ?_
                                          refine j_bipush X (15 : Int32) dL_act_464 (by rfl) ?_
                                          refine j_ishr X dL_act_466 ?_
                                          refine j_bipush X (12 : Int32) dL_act_467 (by rfl) ?_
                                          refine j_call0S X 96 4134 (c_L_low X.tr (memG 0 358 (kD κ) (kB κ) S X9) (zD (kD κ)) ((p1 >>> ((15 : Int32) &&& 31))) (12 : Int32)) me_L_low ml_L_80 st_L_low dL_act_469 (rest := [.int v191, .int x188, .int x23, .ref (kB κ + 0)]) rfl rfl (by decide) (by decide) (Nat.le_of_ble_eq_true rfl) (fun v197 u200 M199 hM198 => ?_)
                                          subst M199
                                          refine j_st (st1 := [.int v197, .int v191, .int x188, .int x23, .ref (kB κ + 0)]) rfl ?_
                                          refine j_iconst X (1 : Int32) dL_act_472 (by rfl) ?_
                                          refine j_isub X dL_act_473 ?_
                                          refine j_goto X 486 dL_act_474 (by decide) ?_
                                          refine j_lv [] rfl ?_
                                          exact hk192 ((v197 - (1 : Int32)))
                                    · refine j_if_eq X 455 dL_act_447 (by decide) ?_ ?_
                                      · refine j_iconst X (4 : Int32) dL_act_455 (by rfl) ?_
                                        exact hk189 (4 : Int32)
                                      · refine j_bipush X (8 : Int32) dL_act_450 (by rfl) ?_
                                        refine j_goto X 456 dL_act_452 (by decide) ?_
                                        exact hk189 (8 : Int32)
                                  · refine j_if_eq X 441 dL_act_425 (by decide) ?_ ?_
                                    · refine j_iconst X (0 : Int32) dL_act_441 (by rfl) ?_
                                      refine j_lv [2, 3] rfl ?_
                                      exact hk183 (0 : Int32)
                                    · refine j_iload_n X 2 rfl dL_act_428 rfl ?_
                                      refine j_iconst X (4 : Int32) dL_act_429 (by rfl) ?_
                                      refine j_ishr X dL_act_430 ?_
                                      refine j_bipush X (8 : Int32) dL_act_431 (by rfl) ?_
                                      refine j_call0S X 96 4134 (c_L_low X.tr (memG 0 358 (kD κ) (kB κ) S X9) (zD (kD κ)) ((p1 >>> ((4 : Int32) &&& 31))) (8 : Int32)) me_L_low ml_L_80 st_L_low dL_act_433 (rest := [.int x23, .ref (kB κ + 0)]) rfl rfl (by decide) (by decide) (Nat.le_of_ble_eq_true rfl) (fun v184 u187 M186 hM185 => ?_)
                                      subst M186
                                      refine j_st (st1 := [.int v184, .int x23, .ref (kB κ + 0)]) rfl ?_
                                      refine j_iconst X (1 : Int32) dL_act_436 (by rfl) ?_
                                      refine j_isub X dL_act_437 ?_
                                      refine j_goto X 442 dL_act_438 (by decide) ?_
                                      refine j_lv [2, 3] rfl ?_
                                      exact hk183 ((v184 - (1 : Int32)))
                                · refine j_ite (fun hc130_11 => ?_) (fun hc130_11 => ?_)
                                  · refine j_table (off := 291) X 421 dL_act_130 (by rw [hc130_11]; decide) (by rw [hc130_11]; decide) (by rw [hc130_11]; rfl) (by decide) ?_
                                    refine j_aload_n X 1 rfl dL_act_421 rfl ?_
                                    refine j_iload X 5 rfl dL_act_422 ?_
                                    refine j_iload_n X 3 rfl dL_act_424 rfl ?_
                                    refine j_join (fun k210 => ∀ (x215 : Int32), J κ 7 rm_L_act (jQf κ rm_L_act rvI (fun (S9 : jSL) M9 => ∃ X1, M9 = memG 0 358 (kD κ) (kB κ) S9.1 X1 ∧ LogK (kD κ) (kB κ) (kT κ) X9 S9.2 X1) (zD (kD κ))) (k210 x215) (memG 0 358 (kD κ) (kB κ) S X9) (zD (kD κ)) 96 4134 [(1, .int p1), (2, .int x3)] 442 [.int x215, .int x23, .ref (kB κ + 0)]) ?_ (fun k210 hk210 => ?_)
                                    · intro x215
                                      refine j_iload_n X 0 rfl dL_act_442 rfl ?_
                                      refine j_bipush X (12 : Int32) dL_act_443 (by rfl) ?_
                                      refine j_ishr X dL_act_445 ?_
                                      refine j_iload_n X 1 rfl dL_act_446 rfl ?_
                                      refine j_join (fun k216 => ∀ (x217 : Int32), J κ 7 rm_L_act (jQf κ rm_L_act rvI (fun (S9 : jSL) M9 => ∃ X1, M9 = memG 0 358 (kD κ) (kB κ) S9.1 X1 ∧ LogK (kD κ) (kB κ) (kT κ) X9 S9.2 X1) (zD (kD κ))) (k216 x217) (memG 0 358 (kD κ) (kB κ) S X9) (zD (kD κ)) 96 4134 [(1, .int p1), (2, .int x3)] 456 [.int x217, .int (p1 >>> ((12 : Int32) &&& 31)), .int x215, .int x23, .ref (kB κ + 0)]) ?_ (fun k216 hk216 => ?_)
                                      · intro x217
                                        refine j_call0S X 96 4134 (c_L_low X.tr (memG 0 358 (kD κ) (kB κ) S X9) (zD (kD κ)) ((p1 >>> ((12 : Int32) &&& 31))) x217) me_L_low ml_L_80 st_L_low dL_act_456 (rest := [.int x215, .int x23, .ref (kB κ + 0)]) rfl rfl (by decide) (by decide) (Nat.le_of_ble_eq_true rfl) (fun v218 u236 M235 hM234 => ?_)
                                        subst M235
                                        refine j_st (st1 := [.int v218, .int x215, .int x23, .ref (kB κ + 0)]) rfl ?_
                                        refine j_iload_n X 1 rfl dL_act_459 rfl ?_
                                        refine j_join (fun k219 => ∀ (x228 : Int32), J κ 7 rm_L_act (jQf κ rm_L_act rvI (fun (S9 : jSL) M9 => ∃ X1, M9 = memG 0 358 (kD κ) (kB κ) S9.1 X1 ∧ LogK (kD κ) (kB κ) (kT κ) X9 S9.2 X1) (zD (kD κ))) (k219 x228) (memG 0 358 (kD κ) (kB κ) S X9) (zD (kD κ)) 96 4134 [] 486 [.int x228, .int v218, .int x215, .int x23, .ref (kB κ + 0)]) ?_ (fun k219 hk219 => ?_)
                                        · intro x228
                                          refine j_call0SH X 92 4110 (c_L_addRule X.tr S X9 L hK.1 x23 x215 v218 x228) mh_L_addRule ml_L_104 st_L_addRule dL_act_486 (rest := []) rfl rfl (by decide) (by decide) (Nat.le_of_ble_eq_true rfl) (fun v229 S230 M233 hM232 => ?_)
                                          obtain ⟨X231, rfl, hKX2311⟩ := hM232
                                          have hKX231 := (hK).trans hKX2311
                                          refine j_st (st1 := [.int v229]) rfl ?_
                                          exact j_iret X dL_act_489 ⟨_, rfl, hKX231⟩ (fun _ h => h)
                                        · refine j_if_eq X 477 dL_act_460 (by decide) ?_ ?_
                                          · refine j_iload_n X 0 rfl dL_act_477 rfl ?_
                                            refine j_bipush X (15 : Int32) dL_act_478 (by rfl) ?_
                                            refine j_ishr X dL_act_480 ?_
                                            refine j_bipush X (8 : Int32) dL_act_481 (by rfl) ?_
                                            refine j_call0S X 96 4134 (c_L_low X.tr (memG 0 358 (kD κ) (kB κ) S X9) (zD (kD κ)) ((p1 >>> ((15 : Int32) &&& 31))) (8 : Int32)) me_L_low ml_L_80 st_L_low dL_act_483 (rest := [.int v218, .int x215, .int x23, .ref (kB κ + 0)]) rfl rfl (by decide) (by decide) (Nat.le_of_ble_eq_true rfl) (fun v220 u223 M222 hM221 => ?_)
                                            subst M222
                                            refine j_st (st1 := [.int v220, .int v218, .int x215, .int x23, .ref (kB κ + 0)]) rfl ?_
                                            refine j_lv [] rfl ?_
                                            exact hk219 v220
                                          · refine j_iload_n X 0 rfl dL_act_463 rfl ?_
                                            refine j_bipush X (15 : Int32) dL_act_464 (by rfl) ?_
                                            refine j_ishr X dL_act_466 ?_
                                            refine j_bipush X (12 : Int32) dL_act_467 (by rfl) ?_
                                            refine j_call0S X 96 4134 (c_L_low X.tr (memG 0 358 (kD κ) (kB κ) S X9) (zD (kD κ)) ((p1 >>> ((15 : Int32) &&& 31))) (12 : Int32)) me_L_low ml_L_80 st_L_low dL_act_469 (rest := [.int v218, .int x215, .int x23, .ref (kB κ + 0)]) rfl rfl (by decide) (by decide) (Nat.le_of_ble_eq_true rfl) (fun v224 u227 M226 hM225 => ?_)
                                            subst M226
                                            refine j_st (st1 := [.int v224, .int v218, .int x215, .int x23, .ref (kB κ + 0)]) rfl ?_
                                            refine j_iconst X (1 : Int32) dL_act_472 (by rfl) ?_
                                            refine j_isub X dL_act_473 ?_
                                            refine j_goto X 486 dL_act_474 (by decide) ?_
                                            refine j_lv [] rfl ?_
                                            exact hk219 ((v224 - (1 : Int32)))
                                      · refine j_if_eq X 455 dL_act_447 (by decide) ?_ ?_
                                        · refine j_iconst X (4 : Int32) dL_act_455 (by rfl) ?_
                                          exact hk216 (4 : Int32)
                                        · refine j_bipush X (8 : Int32) dL_act_450 (by rfl) ?_
                                          refine j_goto X 456 dL_act_452 (by decide) ?_
                                          exact hk216 (8 : Int32)
                                    · refine j_if_eq X 441 dL_act_425 (by decide) ?_ ?_
                                      · refine j_iconst X (0 : Int32) dL_act_441 (by rfl) ?_
                                        refine j_lv [2, 3] rfl ?_
                                        exact hk210 (0 : Int32)
                                      · refine j_iload_n X 2 rfl dL_act_428 rfl ?_
                                        refine j_iconst X (4 : Int32) dL_act_429 (by rfl) ?_
                                        refine j_ishr X dL_act_430 ?_
                                        refine j_bipush X (8 : Int32) dL_act_431 (by rfl) ?_
                                        refine j_call0S X 96 4134 (c_L_low X.tr (memG 0 358 (kD κ) (kB κ) S X9) (zD (kD κ)) ((p1 >>> ((4 : Int32) &&& 31))) (8 : Int32)) me_L_low ml_L_80 st_L_low dL_act_433 (rest := [.int x23, .ref (kB κ + 0)]) rfl rfl (by decide) (by decide) (Nat.le_of_ble_eq_true rfl) (fun v211 u214 M213 hM212 => ?_)
                                        subst M213
                                        refine j_st (st1 := [.int v211, .int x23, .ref (kB κ + 0)]) rfl ?_
                                        refine j_iconst X (1 : Int32) dL_act_436 (by rfl) ?_
                                        refine j_isub X dL_act_437 ?_
                                        refine j_goto X 442 dL_act_438 (by decide) ?_
                                        refine j_lv [2, 3] rfl ?_
                                        exact hk210 ((v211 - (1 : Int32)))
                                  · refine j_ite (fun hc130_12 => ?_) (fun hc130_12 => ?_)
                                    · refine j_table (off := 360) X 490 dL_act_130 (by rw [hc130_12]; decide) (by rw [hc130_12]; decide) (by rw [hc130_12]; rfl) (by decide) ?_
                                      refine j_aload_n X 1 rfl dL_act_490 rfl ?_
                                      refine j_iload X 5 rfl dL_act_491 ?_
                                      refine j_iload_n X 3 rfl dL_act_493 rfl ?_
                                      refine j_join (fun k237 => ∀ (x242 : Int32), J κ 7 rm_L_act (jQf κ rm_L_act rvI (fun (S9 : jSL) M9 => ∃ X1, M9 = memG 0 358 (kD κ) (kB κ) S9.1 X1 ∧ LogK (kD κ) (kB κ) (kT κ) X9 S9.2 X1) (zD (kD κ))) (k237 x242) (memG 0 358 (kD κ) (kB κ) S X9) (zD (kD κ)) 96 4134 [] 511 [.int x242, .int x23, .ref (kB κ + 0)]) ?_ (fun k237 hk237 => ?_)
                                      · intro x242
                                        refine j_call0SH X 94 4122 (c_L_removeRule X.tr S X9 L hK.1 x23 x242) mh_L_removeRule ml_L_107 st_L_removeRule dL_act_511 (rest := []) rfl rfl (by decide) (by decide) (Nat.le_of_ble_eq_true rfl) (fun v243 S244 M247 hM246 => ?_)
                                        obtain ⟨X245, rfl, hKX2451⟩ := hM246
                                        have hKX245 := (hK).trans hKX2451
                                        refine j_st (st1 := [.int v243]) rfl ?_
                                        exact j_iret X dL_act_514 ⟨_, rfl, hKX245⟩ (fun _ h => h)
                                      · refine j_if_eq X 510 dL_act_494 (by decide) ?_ ?_
                                        · refine j_iconst X (0 : Int32) dL_act_510 (by rfl) ?_
                                          refine j_lv [] rfl ?_
                                          exact hk237 (0 : Int32)
                                        · refine j_iload_n X 2 rfl dL_act_497 rfl ?_
                                          refine j_iconst X (4 : Int32) dL_act_498 (by rfl) ?_
                                          refine j_ishr X dL_act_499 ?_
                                          refine j_bipush X (7 : Int32) dL_act_500 (by rfl) ?_
                                          refine j_call0S X 96 4134 (c_L_low X.tr (memG 0 358 (kD κ) (kB κ) S X9) (zD (kD κ)) ((p1 >>> ((4 : Int32) &&& 31))) (7 : Int32)) me_L_low ml_L_80 st_L_low dL_act_502 (rest := [.int x23, .ref (kB κ + 0)]) rfl rfl (by decide) (by decide) (Nat.le_of_ble_eq_true rfl) (fun v238 u241 M240 hM239 => ?_)
                                          subst M240
                                          refine j_st (st1 := [.int v238, .int x23, .ref (kB κ + 0)]) rfl ?_
                                          refine j_iconst X (1 : Int32) dL_act_505 (by rfl) ?_
                                          refine j_isub X dL_act_506 ?_
                                          refine j_goto X 511 dL_act_507 (by decide) ?_
                                          refine j_lv [] rfl ?_
                                          exact hk237 ((v238 - (1 : Int32)))
                                    · refine j_ite (fun hc130_13 => ?_) (fun hc130_13 => ?_)
                                      · refine j_table (off := 385) X 515 dL_act_130 (by rw [hc130_13]; decide) (by rw [hc130_13]; decide) (by rw [hc130_13]; rfl) (by decide) ?_
                                        refine j_aload_n X 1 rfl dL_act_515 rfl ?_
                                        refine j_iload X 5 rfl dL_act_516 ?_
                                        refine j_iload_n X 3 rfl dL_act_518 rfl ?_
                                        refine j_join (fun k248 => ∀ (x257 : Int32), J κ 7 rm_L_act (jQf κ rm_L_act rvI (fun (S9 : jSL) M9 => ∃ X1, M9 = memG 0 358 (kD κ) (kB κ) S9.1 X1 ∧ LogK (kD κ) (kB κ) (kT κ) X9 S9.2 X1) (zD (kD κ))) (k248 x257) (memG 0 358 (kD κ) (kB κ) S X9) (zD (kD κ)) 96 4134 [(1, .int p1)] 542 [.int x257, .int x23, .ref (kB κ + 0)]) ?_ (fun k248 hk248 => ?_)
                                        · intro x257
                                          refine j_iload_n X 0 rfl dL_act_542 rfl ?_
                                          refine j_bipush X (12 : Int32) dL_act_543 (by rfl) ?_
                                          refine j_ishr X dL_act_545 ?_
                                          refine j_iconst X (1 : Int32) dL_act_546 (by rfl) ?_
                                          refine j_iand X dL_act_547 ?_
                                          refine j_iconst X (1 : Int32) dL_act_548 (by rfl) ?_
                                          refine j_join (fun k258 => ∀ (x259 : Int32), J κ 7 rm_L_act (jQf κ rm_L_act rvI (fun (S9 : jSL) M9 => ∃ X1, M9 = memG 0 358 (kD κ) (kB κ) S9.1 X1 ∧ LogK (kD κ) (kB κ) (kT κ) X9 S9.2 X1) (zD (kD κ))) (k258 x259) (memG 0 358 (kD κ) (kB κ) S X9) (zD (kD κ)) 96 4134 [] 557 [.int x259, .int x257, .int x23, .ref (kB κ + 0)]) ?_ (fun k258 hk258 => ?_)
                                          · intro x259
                                            refine j_call0SH X 93 4116 (c_L_setNeed X.tr S X9 L hK.1 x23 x257 x259) mh_L_setNeed ml_L_109 st_L_setNeed dL_act_557 (rest := []) rfl rfl (by decide) (by decide) (Nat.le_of_ble_eq_true rfl) (fun v260 S261 M264 hM263 => ?_)
                                            obtain ⟨X262, rfl, hKX2621⟩ := hM263
                                            have hKX262 := (hK).trans hKX2621
                                            refine j_st (st1 := [.int v260]) rfl ?_
                                            exact j_iret X dL_act_560 ⟨_, rfl, hKX262⟩ (fun _ h => h)
                                          · refine j_icmp_ne X 556 dL_act_549 (by decide) ?_ ?_
                                            · refine j_iconst X (1 : Int32) dL_act_552 (by rfl) ?_
                                              refine j_goto X 557 dL_act_553 (by decide) ?_
                                              refine j_lv [] rfl ?_
                                              exact hk258 (1 : Int32)
                                            · refine j_iconst X (0 : Int32) dL_act_556 (by rfl) ?_
                                              refine j_lv [] rfl ?_
                                              exact hk258 (0 : Int32)
                                        · refine j_if_eq X 535 dL_act_519 (by decide) ?_ ?_
                                          · refine j_iload_n X 2 rfl dL_act_535 rfl ?_
                                            refine j_iconst X (4 : Int32) dL_act_536 (by rfl) ?_
                                            refine j_ishr X dL_act_537 ?_
                                            refine j_iconst X (4 : Int32) dL_act_538 (by rfl) ?_
                                            refine j_call0S X 96 4134 (c_L_low X.tr (memG 0 358 (kD κ) (kB κ) S X9) (zD (kD κ)) ((p1 >>> ((4 : Int32) &&& 31))) (4 : Int32)) me_L_low ml_L_80 st_L_low dL_act_539 (rest := [.int x23, .ref (kB κ + 0)]) rfl rfl (by decide) (by decide) (Nat.le_of_ble_eq_true rfl) (fun v249 u252 M251 hM250 => ?_)
                                            subst M251
                                            refine j_st (st1 := [.int v249, .int x23, .ref (kB κ + 0)]) rfl ?_
                                            refine j_lv [2] rfl ?_
                                            exact hk248 v249
                                          · refine j_iload_n X 2 rfl dL_act_522 rfl ?_
                                            refine j_iconst X (4 : Int32) dL_act_523 (by rfl) ?_
                                            refine j_ishr X dL_act_524 ?_
                                            refine j_bipush X (10 : Int32) dL_act_525 (by rfl) ?_
                                            refine j_call0S X 96 4134 (c_L_low X.tr (memG 0 358 (kD κ) (kB κ) S X9) (zD (kD κ)) ((p1 >>> ((4 : Int32) &&& 31))) (10 : Int32)) me_L_low ml_L_80 st_L_low dL_act_527 (rest := [.int x23, .ref (kB κ + 0)]) rfl rfl (by decide) (by decide) (Nat.le_of_ble_eq_true rfl) (fun v253 u256 M255 hM254 => ?_)
                                            subst M255
                                            refine j_st (st1 := [.int v253, .int x23, .ref (kB κ + 0)]) rfl ?_
                                            refine j_iconst X (1 : Int32) dL_act_530 (by rfl) ?_
                                            refine j_isub X dL_act_531 ?_
                                            refine j_goto X 542 dL_act_532 (by decide) ?_
                                            refine j_lv [2] rfl ?_
                                            exact hk248 ((v253 - (1 : Int32)))
                                      · refine j_ite (fun hc130_14 => ?_) (fun hc130_14 => ?_)
                                        · refine j_table (off := 431) X 561 dL_act_130 (by rw [hc130_14]; decide) (by rw [hc130_14]; decide) (by rw [hc130_14]; rfl) (by decide) ?_
                                          refine j_aload_n X 1 rfl dL_act_561 rfl ?_
                                          refine j_iload X 6 rfl dL_act_562 ?_
                                          refine j_iload_n X 3 rfl dL_act_564 rfl ?_
                                          refine j_join (fun k265 => ∀ (x274 : Int32), J κ 7 rm_L_act (jQf κ rm_L_act rvI (fun (S9 : jSL) M9 => ∃ X1, M9 = memG 0 358 (kD κ) (kB κ) S9.1 X1 ∧ LogK (kD κ) (kB κ) (kT κ) X9 S9.2 X1) (zD (kD κ))) (k265 x274) (memG 0 358 (kD κ) (kB κ) S X9) (zD (kD κ)) 96 4134 [(1, .int p1)] 590 [.int x274, .int x33, .ref (kB κ + 0)]) ?_ (fun k265 hk265 => ?_)
                                          · intro x274
                                            refine j_iload_n X 0 rfl dL_act_590 rfl ?_
                                            refine j_bipush X (9 : Int32) dL_act_591 (by rfl) ?_
                                            refine j_ishr X dL_act_593 ?_
                                            refine j_iconst X (4 : Int32) dL_act_594 (by rfl) ?_
                                            refine j_call0S X 96 4134 (c_L_low X.tr (memG 0 358 (kD κ) (kB κ) S X9) (zD (kD κ)) ((p1 >>> ((9 : Int32) &&& 31))) (4 : Int32)) me_L_low ml_L_80 st_L_low dL_act_595 (rest := [.int x274, .int x33, .ref (kB κ + 0)]) rfl rfl (by decide) (by decide) (Nat.le_of_ble_eq_true rfl) (fun v275 u291 M290 hM289 => ?_)
                                            subst M290
                                            refine j_st (st1 := [.int v275, .int x274, .int x33, .ref (kB κ + 0)]) rfl ?_
                                            refine j_iload_n X 0 rfl dL_act_598 rfl ?_
                                            refine j_bipush X (11 : Int32) dL_act_599 (by rfl) ?_
                                            refine j_ishr X dL_act_601 ?_
                                            refine j_iconst X (3 : Int32) dL_act_602 (by rfl) ?_
                                            refine j_call0S X 96 4134 (c_L_low X.tr (memG 0 358 (kD κ) (kB κ) S X9) (zD (kD κ)) ((p1 >>> ((11 : Int32) &&& 31))) (3 : Int32)) me_L_low ml_L_80 st_L_low dL_act_603 (rest := [.int v275, .int x274, .int x33, .ref (kB κ + 0)]) rfl rfl (by decide) (by decide) (Nat.le_of_ble_eq_true rfl) (fun v276 u288 M287 hM286 => ?_)
                                            subst M287
                                            refine j_st (st1 := [.int v276, .int v275, .int x274, .int x33, .ref (kB κ + 0)]) rfl ?_
                                            refine j_iload_n X 0 rfl dL_act_606 rfl ?_
                                            refine j_bipush X (13 : Int32) dL_act_607 (by rfl) ?_
                                            refine j_ishr X dL_act_609 ?_
                                            refine j_iconst X (3 : Int32) dL_act_610 (by rfl) ?_
                                            refine j_call0S X 96 4134 (c_L_low X.tr (memG 0 358 (kD κ) (kB κ) S X9) (zD (kD κ)) ((p1 >>> ((13 : Int32) &&& 31))) (3 : Int32)) me_L_low ml_L_80 st_L_low dL_act_611 (rest := [.int v276, .int v275, .int x274, .int x33, .ref (kB κ + 0)]) rfl rfl (by decide) (by decide) (Nat.le_of_ble_eq_true rfl) (fun v277 u285 M284 hM283 => ?_)
                                            subst M284
                                            refine j_st (st1 := [.int v277, .int v276, .int v275, .int x274, .int x33, .ref (kB κ + 0)]) rfl ?_
                                            refine j_call0SH X 90 4098 (c_L_setShares X.tr S X9 L hK.1 x33 x274 v275 v276 v277) mh_L_setShares ml_L_111 st_L_setShares dL_act_614 (rest := []) rfl rfl (by decide) (by decide) (Nat.le_of_ble_eq_true rfl) (fun v278 S279 M282 hM281 => ?_)
                                            obtain ⟨X280, rfl, hKX2801⟩ := hM281
                                            have hKX280 := (hK).trans hKX2801
                                            refine j_st (st1 := [.int v278]) rfl ?_
                                            exact j_iret X dL_act_617 ⟨_, rfl, hKX280⟩ (fun _ h => h)
                                          · refine j_if_eq X 582 dL_act_565 (by decide) ?_ ?_
                                            · refine j_iload_n X 2 rfl dL_act_582 rfl ?_
                                              refine j_bipush X (7 : Int32) dL_act_583 (by rfl) ?_
                                              refine j_ishr X dL_act_585 ?_
                                              refine j_iconst X (4 : Int32) dL_act_586 (by rfl) ?_
                                              refine j_call0S X 96 4134 (c_L_low X.tr (memG 0 358 (kD κ) (kB κ) S X9) (zD (kD κ)) ((p1 >>> ((7 : Int32) &&& 31))) (4 : Int32)) me_L_low ml_L_80 st_L_low dL_act_587 (rest := [.int x33, .ref (kB κ + 0)]) rfl rfl (by decide) (by decide) (Nat.le_of_ble_eq_true rfl) (fun v266 u269 M268 hM267 => ?_)
                                              subst M268
                                              refine j_st (st1 := [.int v266, .int x33, .ref (kB κ + 0)]) rfl ?_
                                              refine j_lv [2] rfl ?_
                                              exact hk265 v266
                                            · refine j_iload_n X 2 rfl dL_act_568 rfl ?_
                                              refine j_bipush X (7 : Int32) dL_act_569 (by rfl) ?_
                                              refine j_ishr X dL_act_571 ?_
                                              refine j_bipush X (103 : Int32) dL_act_572 (by rfl) ?_
                                              refine j_call0S X 96 4134 (c_L_low X.tr (memG 0 358 (kD κ) (kB κ) S X9) (zD (kD κ)) ((p1 >>> ((7 : Int32) &&& 31))) (103 : Int32)) me_L_low ml_L_80 st_L_low dL_act_574 (rest := [.int x33, .ref (kB κ + 0)]) rfl rfl (by decide) (by decide) (Nat.le_of_ble_eq_true rfl) (fun v270 u273 M272 hM271 => ?_)
                                              subst M272
                                              refine j_st (st1 := [.int v270, .int x33, .ref (kB κ + 0)]) rfl ?_
                                              refine j_iconst X (1 : Int32) dL_act_577 (by rfl) ?_
                                              refine j_isub X dL_act_578 ?_
                                              refine j_goto X 590 dL_act_579 (by decide) ?_
                                              refine j_lv [2] rfl ?_
                                              exact hk265 ((v270 - (1 : Int32)))
                                        · refine j_ite (fun hc130_15 => ?_) (fun hc130_15 => ?_)
                                          · refine j_table (off := 488) X 618 dL_act_130 (by rw [hc130_15]; decide) (by rw [hc130_15]; decide) (by rw [hc130_15]; rfl) (by decide) ?_
                                            refine j_aload_n X 1 rfl dL_act_618 rfl ?_
                                            refine j_iload X 6 rfl dL_act_619 ?_
                                            refine j_iload_n X 3 rfl dL_act_621 rfl ?_
                                            refine j_join (fun k292 => ∀ (x301 : Int32), J κ 7 rm_L_act (jQf κ rm_L_act rvI (fun (S9 : jSL) M9 => ∃ X1, M9 = memG 0 358 (kD κ) (kB κ) S9.1 X1 ∧ LogK (kD κ) (kB κ) (kT κ) X9 S9.2 X1) (zD (kD κ))) (k292 x301) (memG 0 358 (kD κ) (kB κ) S X9) (zD (kD κ)) 96 4134 [] 649 [.int x301, .int x33, .ref (kB κ + 0)]) ?_ (fun k292 hk292 => ?_)
                                            · intro x301
                                              refine j_call0SH X 93 4116 (c_L_setSalt X.tr S X9 L hK.1 x33 x301) mh_L_setSalt ml_L_114 st_L_setSalt dL_act_649 (rest := []) rfl rfl (by decide) (by decide) (Nat.le_of_ble_eq_true rfl) (fun v302 S303 M306 hM305 => ?_)
                                              obtain ⟨X304, rfl, hKX3041⟩ := hM305
                                              have hKX304 := (hK).trans hKX3041
                                              refine j_st (st1 := [.int v302]) rfl ?_
                                              exact j_iret X dL_act_652 ⟨_, rfl, hKX304⟩ (fun _ h => h)
                                            · refine j_if_eq X 640 dL_act_622 (by decide) ?_ ?_
                                              · refine j_iload_n X 2 rfl dL_act_640 rfl ?_
                                                refine j_bipush X (7 : Int32) dL_act_641 (by rfl) ?_
                                                refine j_ishr X dL_act_643 ?_
                                                refine j_bipush X (50 : Int32) dL_act_644 (by rfl) ?_
                                                refine j_call0S X 96 4134 (c_L_low X.tr (memG 0 358 (kD κ) (kB κ) S X9) (zD (kD κ)) ((p1 >>> ((7 : Int32) &&& 31))) (50 : Int32)) me_L_low ml_L_80 st_L_low dL_act_646 (rest := [.int x33, .ref (kB κ + 0)]) rfl rfl (by decide) (by decide) (Nat.le_of_ble_eq_true rfl) (fun v293 u296 M295 hM294 => ?_)
                                                subst M295
                                                refine j_st (st1 := [.int v293, .int x33, .ref (kB κ + 0)]) rfl ?_
                                                refine j_lv [] rfl ?_
                                                exact hk292 v293
                                              · refine j_iload_n X 2 rfl dL_act_625 rfl ?_
                                                refine j_bipush X (7 : Int32) dL_act_626 (by rfl) ?_
                                                refine j_ishr X dL_act_628 ?_
                                                refine j_sipush X (1004 : Int32) dL_act_629 (by rfl) ?_
                                                refine j_call0S X 96 4134 (c_L_low X.tr (memG 0 358 (kD κ) (kB κ) S X9) (zD (kD κ)) ((p1 >>> ((7 : Int32) &&& 31))) (1004 : Int32)) me_L_low ml_L_80 st_L_low dL_act_632 (rest := [.int x33, .ref (kB κ + 0)]) rfl rfl (by decide) (by decide) (Nat.le_of_ble_eq_true rfl) (fun v297 u300 M299 hM298 => ?_)
                                                subst M299
                                                refine j_st (st1 := [.int v297, .int x33, .ref (kB κ + 0)]) rfl ?_
                                                refine j_iconst X (1 : Int32) dL_act_635 (by rfl) ?_
                                                refine j_isub X dL_act_636 ?_
                                                refine j_goto X 649 dL_act_637 (by decide) ?_
                                                refine j_lv [] rfl ?_
                                                exact hk292 ((v297 - (1 : Int32)))
                                          · refine j_ite (fun hc130_16 => ?_) (fun hc130_16 => ?_)
                                            · refine j_table (off := 523) X 653 dL_act_130 (by rw [hc130_16]; decide) (by rw [hc130_16]; decide) (by rw [hc130_16]; rfl) (by decide) ?_
                                              refine j_aload_n X 1 rfl dL_act_653 rfl ?_
                                              refine j_iload X 6 rfl dL_act_654 ?_
                                              refine j_iload_n X 3 rfl dL_act_656 rfl ?_
                                              refine j_join (fun k307 => ∀ (x316 : Int32), J κ 7 rm_L_act (jQf κ rm_L_act rvI (fun (S9 : jSL) M9 => ∃ X1, M9 = memG 0 358 (kD κ) (kB κ) S9.1 X1 ∧ LogK (kD κ) (kB κ) (kT κ) X9 S9.2 X1) (zD (kD κ))) (k307 x316) (memG 0 358 (kD κ) (kB κ) S X9) (zD (kD κ)) 96 4134 [] 682 [.int x316, .int x33, .ref (kB κ + 0)]) ?_ (fun k307 hk307 => ?_)
                                              · intro x316
                                                refine j_call0SH X 93 4116 (c_L_stop X.tr S X9 L hK.1 x33 x316) mh_L_stop ml_L_116 st_L_stop dL_act_682 (rest := []) rfl rfl (by decide) (by decide) (Nat.le_of_ble_eq_true rfl) (fun v317 S318 M321 hM320 => ?_)
                                                obtain ⟨X319, rfl, hKX3191⟩ := hM320
                                                have hKX319 := (hK).trans hKX3191
                                                refine j_st (st1 := [.int v317]) rfl ?_
                                                exact j_iret X dL_act_685 ⟨_, rfl, hKX319⟩ (fun _ h => h)
                                              · refine j_if_eq X 674 dL_act_657 (by decide) ?_ ?_
                                                · refine j_iload_n X 2 rfl dL_act_674 rfl ?_
                                                  refine j_bipush X (7 : Int32) dL_act_675 (by rfl) ?_
                                                  refine j_ishr X dL_act_677 ?_
                                                  refine j_iconst X (4 : Int32) dL_act_678 (by rfl) ?_
                                                  refine j_call0S X 96 4134 (c_L_low X.tr (memG 0 358 (kD κ) (kB κ) S X9) (zD (kD κ)) ((p1 >>> ((7 : Int32) &&& 31))) (4 : Int32)) me_L_low ml_L_80 st_L_low dL_act_679 (rest := [.int x33, .ref (kB κ + 0)]) rfl rfl (by decide) (by decide) (Nat.le_of_ble_eq_true rfl) (fun v308 u311 M310 hM309 => ?_)
                                                  subst M310
                                                  refine j_st (st1 := [.int v308, .int x33, .ref (kB κ + 0)]) rfl ?_
                                                  refine j_lv [] rfl ?_
                                                  exact hk307 v308
                                                · refine j_iload_n X 2 rfl dL_act_660 rfl ?_
                                                  refine j_bipush X (7 : Int32) dL_act_661 (by rfl) ?_
                                                  refine j_ishr X dL_act_663 ?_
                                                  refine j_bipush X (6 : Int32) dL_act_664 (by rfl) ?_
                                                  refine j_call0S X 96 4134 (c_L_low X.tr (memG 0 358 (kD κ) (kB κ) S X9) (zD (kD κ)) ((p1 >>> ((7 : Int32) &&& 31))) (6 : Int32)) me_L_low ml_L_80 st_L_low dL_act_666 (rest := [.int x33, .ref (kB κ + 0)]) rfl rfl (by decide) (by decide) (Nat.le_of_ble_eq_true rfl) (fun v312 u315 M314 hM313 => ?_)
                                                  subst M314
                                                  refine j_st (st1 := [.int v312, .int x33, .ref (kB κ + 0)]) rfl ?_
                                                  refine j_iconst X (1 : Int32) dL_act_669 (by rfl) ?_
                                                  refine j_isub X dL_act_670 ?_
                                                  refine j_goto X 682 dL_act_671 (by decide) ?_
                                                  refine j_lv [] rfl ?_
                                                  exact hk307 ((v312 - (1 : Int32)))
                                            · refine j_ite (fun hc130_17 => ?_) (fun hc130_17 => ?_)
                                              · refine j_table (off := 556) X 686 dL_act_130 (by rw [hc130_17]; decide) (by rw [hc130_17]; decide) (by rw [hc130_17]; rfl) (by decide) ?_
                                                refine j_aload_n X 1 rfl dL_act_686 rfl ?_
                                                refine j_iload X 6 rfl dL_act_687 ?_
                                                refine j_call0SH X 91 3511 (c_L_beginAnew X.tr S X9 L hK.1 x33) mh_L_beginAnew ml_L_118 st_L_beginAnew dL_act_689 (rest := []) rfl rfl (by decide) (by decide) (Nat.le_of_ble_eq_true rfl) (fun v322 S323 M326 hM325 => ?_)
                                                obtain ⟨X324, rfl, hKX3241⟩ := hM325
                                                have hKX324 := (hK).trans hKX3241
                                                refine j_st (st1 := [.int v322]) rfl ?_
                                                exact j_iret X dL_act_692 ⟨_, rfl, hKX324⟩ (fun _ h => h)
                                              · refine j_ite (fun hc130_18 => ?_) (fun hc130_18 => ?_)
                                                · refine j_table (off := 563) X 693 dL_act_130 (by rw [hc130_18]; decide) (by rw [hc130_18]; decide) (by rw [hc130_18]; rfl) (by decide) ?_
                                                  refine j_aload_n X 1 rfl dL_act_693 rfl ?_
                                                  refine j_iload_n X 4 rfl dL_act_694 rfl ?_
                                                  refine j_iload X 5 rfl dL_act_695 ?_
                                                  refine j_call0SH X 90 3505 (c_L_hold X.tr S X9 L hK.1 x13 x23) mh_L_hold ml_L_120 st_L_hold dL_act_697 (rest := []) rfl rfl (by decide) (by decide) (Nat.le_of_ble_eq_true rfl) (fun v327 S328 M331 hM330 => ?_)
                                                  obtain ⟨X329, rfl, hKX3291⟩ := hM330
                                                  have hKX329 := (hK).trans hKX3291
                                                  refine j_st (st1 := [.int v327]) rfl ?_
                                                  exact j_iret X dL_act_700 ⟨_, rfl, hKX329⟩ (fun _ h => h)
                                                · refine j_ite (fun hc130_19 => ?_) (fun hc130_19 => ?_)
                                                  · refine j_table (off := 571) X 701 dL_act_130 (by rw [hc130_19]; decide) (by rw [hc130_19]; decide) (by rw [hc130_19]; rfl) (by decide) ?_
                                                    refine j_aload_n X 1 rfl dL_act_701 rfl ?_
                                                    refine j_iload_n X 4 rfl dL_act_702 rfl ?_
                                                    refine j_iload X 5 rfl dL_act_703 ?_
                                                    refine j_call0SH X 90 3505 (c_L_release X.tr S X9 L hK.1 x13 x23) mh_L_release ml_L_122 st_L_release dL_act_705 (rest := []) rfl rfl (by decide) (by decide) (Nat.le_of_ble_eq_true rfl) (fun v332 S333 M336 hM335 => ?_)
                                                    obtain ⟨X334, rfl, hKX3341⟩ := hM335
                                                    have hKX334 := (hK).trans hKX3341
                                                    refine j_st (st1 := [.int v332]) rfl ?_
                                                    exact j_iret X dL_act_708 ⟨_, rfl, hKX334⟩ (fun _ h => h)
                                                  · refine j_ite (fun hc130_20 => ?_) (fun hc130_20 => ?_)
                                                    · refine j_table (off := 579) X 709 dL_act_130 (by rw [hc130_20]; decide) (by rw [hc130_20]; decide) (by rw [hc130_20]; rfl) (by decide) ?_
                                                      refine j_aload_n X 1 rfl dL_act_709 rfl ?_
                                                      refine j_iload X 6 rfl dL_act_710 ?_
                                                      refine j_call0SH X 91 3511 (c_L_holdTrial X.tr S X9 L hK.1 x33) mh_L_holdTrial ml_L_124 st_L_holdTrial dL_act_712 (rest := []) rfl rfl (by decide) (by decide) (Nat.le_of_ble_eq_true rfl) (fun v337 S338 M341 hM340 => ?_)
                                                      obtain ⟨X339, rfl, hKX3391⟩ := hM340
                                                      have hKX339 := (hK).trans hKX3391
                                                      refine j_st (st1 := [.int v337]) rfl ?_
                                                      exact j_iret X dL_act_715 ⟨_, rfl, hKX339⟩ (fun _ h => h)
                                                    · refine j_ite (fun hc130_21 => ?_) (fun hc130_21 => ?_)
                                                      · refine j_table (off := 586) X 716 dL_act_130 (by rw [hc130_21]; decide) (by rw [hc130_21]; decide) (by rw [hc130_21]; rfl) (by decide) ?_
                                                        refine j_aload_n X 1 rfl dL_act_716 rfl ?_
                                                        refine j_iload X 6 rfl dL_act_717 ?_
                                                        refine j_call0SH X 91 3511 (c_L_releaseTrial X.tr S X9 L hK.1 x33) mh_L_releaseTrial ml_L_126 st_L_releaseTrial dL_act_719 (rest := []) rfl rfl (by decide) (by decide) (Nat.le_of_ble_eq_true rfl) (fun v342 S343 M346 hM345 => ?_)
                                                        obtain ⟨X344, rfl, hKX3441⟩ := hM345
                                                        have hKX344 := (hK).trans hKX3441
                                                        refine j_st (st1 := [.int v342]) rfl ?_
                                                        exact j_iret X dL_act_722 ⟨_, rfl, hKX344⟩ (fun _ h => h)
                                                      · refine j_tableD X 723 dL_act_130 (by have q0 := j_ne hc130_0 (a := 0) rfl; have q1 := j_ne hc130_1 (a := 1) rfl; have q2 := j_ne hc130_2 (a := 2) rfl; have q3 := j_ne hc130_3 (a := 3) rfl; have q4 := j_ne hc130_4 (a := 4) rfl; have q5 := j_ne hc130_5 (a := 5) rfl; have q6 := j_ne hc130_6 (a := 6) rfl; have q7 := j_ne hc130_7 (a := 7) rfl; have q8 := j_ne hc130_8 (a := 8) rfl; have q9 := j_ne hc130_9 (a := 9) rfl; have q10 := j_ne hc130_10 (a := 10) rfl; have q11 := j_ne hc130_11 (a := 11) rfl; have q12 := j_ne hc130_12 (a := 12) rfl; have q13 := j_ne hc130_13 (a := 13) rfl; have q14 := j_ne hc130_14 (a := 14) rfl; have q15 := j_ne hc130_15 (a := 15) rfl; have q16 := j_ne hc130_16 (a := 16) rfl; have q17 := j_ne hc130_17 (a := 17) rfl; have q18 := j_ne hc130_18 (a := 18) rfl; have q19 := j_ne hc130_19 (a := 19) rfl; have q20 := j_ne hc130_20 (a := 20) rfl; have q21 := j_ne hc130_21 (a := 21) rfl; omega) (by decide) ?_
                                                        refine j_aload_n X 1 rfl dL_act_723 rfl ?_
                                                        refine j_iload_n X 4 rfl dL_act_724 rfl ?_
                                                        refine j_iload X 5 rfl dL_act_725 ?_
                                                        refine j_call0SH X 91 3511 (c_L_show X.tr S X9 L hK.1 x13 x23) mh_L_show ml_L_128 st_L_show dL_act_727 (rest := []) rfl rfl (by decide) (by decide) (Nat.le_of_ble_eq_true rfl) (fun v347 S348 M351 hM350 => ?_)
                                                        obtain ⟨X349, rfl, hKX3491⟩ := hM350
                                                        have hKX349 := (hK).trans hKX3491
                                                        refine j_st (st1 := [.int v347]) rfl ?_
                                                        exact j_iret X dL_act_730 ⟨_, rfl, hKX349⟩ (fun _ h => h)
          · refine j_if_eq X 115 dL_act_99 (by decide) ?_ ?_
            · refine j_iload_n X 2 rfl dL_act_115 rfl ?_
              refine j_iconst X (4 : Int32) dL_act_116 (by rfl) ?_
              refine j_ishr X dL_act_117 ?_
              refine j_iconst X (4 : Int32) dL_act_118 (by rfl) ?_
              refine j_call0S X 96 4134 (c_L_low X.tr (memG 0 358 (kD κ) (kB κ) S X9) (zD (kD κ)) ((p1 >>> ((4 : Int32) &&& 31))) (4 : Int32)) me_L_low ml_L_80 st_L_low dL_act_119 (rest := []) rfl rfl (by decide) (by decide) (Nat.le_of_ble_eq_true rfl) (fun v35 u38 M37 hM36 => ?_)
              subst M37
              refine j_st (st1 := [.int v35]) rfl ?_
              refine j_lv [1, 2, 3, 4, 5, 0] rfl ?_
              exact hk34 v35
            · refine j_iload_n X 2 rfl dL_act_102 rfl ?_
              refine j_iconst X (4 : Int32) dL_act_103 (by rfl) ?_
              refine j_ishr X dL_act_104 ?_
              refine j_bipush X (8 : Int32) dL_act_105 (by rfl) ?_
              refine j_call0S X 96 4134 (c_L_low X.tr (memG 0 358 (kD κ) (kB κ) S X9) (zD (kD κ)) ((p1 >>> ((4 : Int32) &&& 31))) (8 : Int32)) me_L_low ml_L_80 st_L_low dL_act_107 (rest := []) rfl rfl (by decide) (by decide) (Nat.le_of_ble_eq_true rfl) (fun v39 u42 M41 hM40 => ?_)
              subst M41
              refine j_st (st1 := [.int v39]) rfl ?_
              refine j_iconst X (1 : Int32) dL_act_110 (by rfl) ?_
              refine j_isub X dL_act_111 ?_
              refine j_goto X 122 dL_act_112 (by decide) ?_
              refine j_lv [1, 2, 3, 4, 5, 0] rfl ?_
              exact hk34 ((v39 - (1 : Int32)))
        · refine j_if_eq X 89 dL_act_73 (by decide) ?_ ?_
          · refine j_iload_n X 2 rfl dL_act_89 rfl ?_
            refine j_iconst X (4 : Int32) dL_act_90 (by rfl) ?_
            refine j_ishr X dL_act_91 ?_
            refine j_iconst X (3 : Int32) dL_act_92 (by rfl) ?_
            refine j_call0S X 96 4134 (c_L_low X.tr (memG 0 358 (kD κ) (kB κ) S X9) (zD (kD κ)) ((p1 >>> ((4 : Int32) &&& 31))) (3 : Int32)) me_L_low ml_L_80 st_L_low dL_act_93 (rest := []) rfl rfl (by decide) (by decide) (Nat.le_of_ble_eq_true rfl) (fun v25 u28 M27 hM26 => ?_)
            subst M27
            refine j_st (st1 := [.int v25]) rfl ?_
            refine j_lv [1, 2, 3, 4, 0] rfl ?_
            exact hk24 v25
          · refine j_iload_n X 2 rfl dL_act_76 rfl ?_
            refine j_iconst X (4 : Int32) dL_act_77 (by rfl) ?_
            refine j_ishr X dL_act_78 ?_
            refine j_bipush X (8 : Int32) dL_act_79 (by rfl) ?_
            refine j_call0S X 96 4134 (c_L_low X.tr (memG 0 358 (kD κ) (kB κ) S X9) (zD (kD κ)) ((p1 >>> ((4 : Int32) &&& 31))) (8 : Int32)) me_L_low ml_L_80 st_L_low dL_act_81 (rest := []) rfl rfl (by decide) (by decide) (Nat.le_of_ble_eq_true rfl) (fun v29 u32 M31 hM30 => ?_)
            subst M31
            refine j_st (st1 := [.int v29]) rfl ?_
            refine j_iconst X (1 : Int32) dL_act_84 (by rfl) ?_
            refine j_isub X dL_act_85 ?_
            refine j_goto X 96 dL_act_86 (by decide) ?_
            refine j_lv [1, 2, 3, 4, 0] rfl ?_
            exact hk24 ((v29 - (1 : Int32)))
      · refine j_if_eq X 62 dL_act_45 (by decide) ?_ ?_
        · refine j_iload_n X 2 rfl dL_act_62 rfl ?_
          refine j_bipush X (9 : Int32) dL_act_63 (by rfl) ?_
          refine j_ishr X dL_act_65 ?_
          refine j_iconst X (4 : Int32) dL_act_66 (by rfl) ?_
          refine j_call0S X 96 4134 (c_L_low X.tr (memG 0 358 (kD κ) (kB κ) S X9) (zD (kD κ)) ((p1 >>> ((9 : Int32) &&& 31))) (4 : Int32)) me_L_low ml_L_80 st_L_low dL_act_67 (rest := []) rfl rfl (by decide) (by decide) (Nat.le_of_ble_eq_true rfl) (fun v15 u18 M17 hM16 => ?_)
          subst M17
          refine j_st (st1 := [.int v15]) rfl ?_
          refine j_lv [1, 2, 3, 0] rfl ?_
          exact hk14 v15
        · refine j_iload_n X 2 rfl dL_act_48 rfl ?_
          refine j_bipush X (9 : Int32) dL_act_49 (by rfl) ?_
          refine j_ishr X dL_act_51 ?_
          refine j_bipush X (10 : Int32) dL_act_52 (by rfl) ?_
          refine j_call0S X 96 4134 (c_L_low X.tr (memG 0 358 (kD κ) (kB κ) S X9) (zD (kD κ)) ((p1 >>> ((9 : Int32) &&& 31))) (10 : Int32)) me_L_low ml_L_80 st_L_low dL_act_54 (rest := []) rfl rfl (by decide) (by decide) (Nat.le_of_ble_eq_true rfl) (fun v19 u22 M21 hM20 => ?_)
          subst M21
          refine j_st (st1 := [.int v19]) rfl ?_
          refine j_iconst X (1 : Int32) dL_act_57 (by rfl) ?_
          refine j_isub X dL_act_58 ?_
          refine j_goto X 70 dL_act_59 (by decide) ?_
          refine j_lv [1, 2, 3, 0] rfl ?_
          exact hk14 ((v19 - (1 : Int32)))
    · refine j_if_eq X 35 dL_act_19 (by decide) ?_ ?_
      · refine j_iload_n X 2 rfl dL_act_35 rfl ?_
        refine j_iconst X (4 : Int32) dL_act_36 (by rfl) ?_
        refine j_ishr X dL_act_37 ?_
        refine j_bipush X (6 : Int32) dL_act_38 (by rfl) ?_
        refine j_call0S X 96 4134 (c_L_low X.tr (memG 0 358 (kD κ) (kB κ) S X9) (zD (kD κ)) ((p1 >>> ((4 : Int32) &&& 31))) (6 : Int32)) me_L_low ml_L_80 st_L_low dL_act_40 (rest := []) rfl rfl (by decide) (by decide) (Nat.le_of_ble_eq_true rfl) (fun v5 u8 M7 hM6 => ?_)
        subst M7
        refine j_st (st1 := [.int v5]) rfl ?_
        refine j_lv [1, 2, 0] rfl ?_
        exact hk4 v5
      · refine j_iload_n X 2 rfl dL_act_22 rfl ?_
        refine j_iconst X (4 : Int32) dL_act_23 (by rfl) ?_
        refine j_ishr X dL_act_24 ?_
        refine j_bipush X (23 : Int32) dL_act_25 (by rfl) ?_
        refine j_call0S X 96 4134 (c_L_low X.tr (memG 0 358 (kD κ) (kB κ) S X9) (zD (kD κ)) ((p1 >>> ((4 : Int32) &&& 31))) (23 : Int32)) me_L_low ml_L_80 st_L_low dL_act_27 (rest := []) rfl rfl (by decide) (by decide) (Nat.le_of_ble_eq_true rfl) (fun v9 u12 M11 hM10 => ?_)
        subst M11
        refine j_st (st1 := [.int v9]) rfl ?_
        refine j_iconst X (1 : Int32) dL_act_30 (by rfl) ?_
        refine j_isub X dL_act_31 ?_
        refine j_goto X 43 dL_act_32 (by decide) ?_
        refine j_lv [1, 2, 0] rfl ?_
        exact hk4 ((v9 - (1 : Int32)))
  · refine j_if_ne X 16 dL_act_9 (by decide) ?_ ?_
    · refine j_iconst X (1 : Int32) dL_act_12 (by rfl) ?_
      refine j_goto X 17 dL_act_13 (by decide) ?_
      exact hk2 (1 : Int32)
    · refine j_iconst X (0 : Int32) dL_act_16 (by rfl) ?_
      exact hk2 (0 : Int32)
def f_L_isFlagSo (S : jS) (L : jLg) (p1 : Int32) : Option (jR jS) := loopK (fun (rec1 : jS → Int32 → Int32 → Option (jR jS)) (S2 : jS) (x3 : Int32) (x4 : Int32) => (if (4 : Int32) ≤ x4 then loopK (fun (rec5 : jS → Int32 → Option (jR jS)) (S6 : jS) (x7 : Int32) => (if (20 : Int32) ≤ x7 then joinK (fun (x14 : Int32) => chk (isb x14) (some (0, x14, S6))) (fun k8 => joinK (fun (_ : Unit) => k8 (0 : Int32)) (fun k9 => (if x3 = (20 : Int32) then jbin0 (f_X10_rules S6 p1) (fun v10 _ => (if (5 : Int32) < v10 then k9 () else k8 (1 : Int32))) else k9 ()))) else jbin0 (f_X10_view S6 x7 p1) (fun v15 S16 => jbin0 (f_X10_ruleFor S16 x7 p1) (fun v17 _ => jbin0 (f_X10_shownLast S16 x7 p1) (fun v18 _ => joinK (fun (S30 : jS) (x31 : Int32) => joinK (fun (_ : Unit) => chk (isb (0 : Int32)) (some (0, (0 : Int32), S30))) (fun k32 => (if x31 = (0 : Int32) then k32 () else joinK (fun (_ : Unit) => letE (x7 + (1 : Int32)) fun x38 => rec5 S30 x38) (fun k33 => (if v17 = (-1 : Int32) then jbin0 (f_X10_isHeld S30 x7 p1) (fun v34 _ => (if v34 = (0 : Int32) then (if v15 = (0 : Int32) then k33 () else k32 ()) else k33 ())) else k33 ()))))) (fun k19 => joinK (fun (S29 : jS) => k19 S29 (0 : Int32)) (fun k20 => (if v15 < (0 : Int32) then k20 S16 else (if (4 : Int32) ≤ v15 then k20 S16 else jbin0 (f_X10_viewByLog S16 L x7 p1) (fun v21 S22 => (if v21 = v15 then (if v17 < (-1 : Int32) then k20 S22 else jbin0 (f_X10_rules S22 p1) (fun v23 _ => (if v23 ≤ v17 then k20 S22 else (if v18 < (-1 : Int32) then k20 S22 else (if (4 : Int32) ≤ v18 then k20 S22 else k19 S22 (1 : Int32)))))) else k20 S22))))))))))) (fun _ _ => none) 40 S2 (0 : Int32) else jbin0 (f_X10_reach S2 p1 x4) (fun v47 S48 => letE (x3 + v47) fun x49 => letE (x4 + (1 : Int32)) fun x50 => rec1 S48 x49 x50))) (fun _ _ _ => none) 40 S (0 : Int32) (0 : Int32)
abbrev rm_L_isFlagSo : Room := { frames := 9, cells := 521, slots := 3126, locals := 171 }
set_option maxHeartbeats 4000000 in
set_option maxRecDepth 100000 in
theorem c_L_isFlagSo {l : Launch} {D : va_G} {B t0 : Nat} (hl9 : l.stackTraces = false) (S : jS) (X9 : jMem) (z : Nat → Prop) (L : jLg) (hL : LogX D B t0 L X9) (p1 : Int32) : jCf l D B t0 yL_isFlagSo cL_isFlagSo 8 (some .boolean) rm_L_isFlagSo [.ref (B + 0), .int p1] (memG 0 358 D B S X9) z (f_L_isFlagSo S L p1) rvI (fun S9 M9 => M9 = memG 0 358 D B S9 X9) z := by
  refine jC_of hl9 (me_L_isFlagSo).1 [(0, .ref (B + 0)), (1, .int p1)] ⟨by decide +kernel, Nat.le_of_ble_eq_true rfl⟩ rfl (fun κ hl hD hB hT X htab hin => ?_)
  subst hl hD hB hT
  have X : jX κ RL cL_isFlagSo 8 (some .boolean) := X
  unfold f_L_isFlagSo
  refine j_iconst X (0 : Int32) dL_isFlagSo_0 (by rfl) ?_
  refine j_istore_n X [(2, .int (0 : Int32)), (0, .ref (kB κ + 0)), (1, .int p1)] dL_isFlagSo_1 rfl (by decide) rfl ?_
  refine j_iconst X (0 : Int32) dL_isFlagSo_2 (by rfl) ?_
  refine j_istore_n X [(3, .int (0 : Int32)), (2, .int (0 : Int32)), (0, .ref (kB κ + 0)), (1, .int p1)] dL_isFlagSo_3 rfl (by decide) rfl ?_
  refine j_bud (bc1 := 2 * 40 + 441) (bs1 := 12 * 40 + 2646) (by decide) (by decide) ?_
  refine j_lv [2, 3, 1, 0] rfl ?_
  refine j_loopB (fun (n9 : Nat) (k : jS → Int32 → Int32 → Option (jR jS)) => ∀ (S2 : jS) (x3 : Int32) (x4 : Int32), J κ 8 rm_L_isFlagSo (jQf κ rm_L_isFlagSo rvI (fun S9 M9 => M9 = memG 0 358 (kD κ) (kB κ) S9 X9) z) (k S2 x3 x4) (memG 0 358 (kD κ) (kB κ) S2 X9) z (2 * n9 + 441) (12 * n9 + 2646) [(0, .ref (kB κ + 0)), (1, .int p1), (2, .int x3), (3, .int x4)] 4 []) (fun _ _ _ _ => j_none) (fun n9 rec1 hrec1 => ?_) 40 _ _ _
  intro S2 x3 x4
  refine j_bud (bc1 := (2 * n9 + 443)) (bs1 := (12 * n9 + 2658)) (by omega) (by omega) ?_
  refine j_iload_n X 3 rfl dL_isFlagSo_4 rfl ?_
  refine j_iconst X (4 : Int32) dL_isFlagSo_5 (by rfl) ?_
  refine j_icmp_ge X 24 dL_isFlagSo_6 (by decide) ?_ ?_
  · refine j_bud (bc1 := 443) (bs1 := 2658) (by omega) (by omega) ?_
    refine j_iconst X (0 : Int32) dL_isFlagSo_24 (by rfl) ?_
    refine j_istore_n X [(3, .int (0 : Int32)), (0, .ref (kB κ + 0)), (1, .int p1), (2, .int x3)] dL_isFlagSo_25 rfl (by decide) rfl ?_
    refine j_bud (bc1 := 11 * 40 + 3) (bs1 := 66 * 40 + 18) (by decide) (by decide) ?_
    refine j_lv [1, 2, 3, 0] rfl ?_
    refine j_loopB (fun (n9 : Nat) (k : jS → Int32 → Option (jR jS)) => ∀ (S6 : jS) (x7 : Int32), J κ 8 rm_L_isFlagSo (jQf κ rm_L_isFlagSo rvI (fun S9 M9 => M9 = memG 0 358 (kD κ) (kB κ) S9 X9) z) (k S6 x7) (memG 0 358 (kD κ) (kB κ) S6 X9) z (11 * n9 + 3) (66 * n9 + 18) [(0, .ref (kB κ + 0)), (1, .int p1), (2, .int x3), (3, .int x7)] 26 []) (fun _ _ _ => j_none) (fun n9 rec5 hrec5 => ?_) 40 _ _
    intro S6 x7
    refine j_bud (bc1 := (11 * n9 + 14)) (bs1 := (66 * n9 + 84)) (by omega) (by omega) ?_
    refine j_iload_n X 3 rfl dL_isFlagSo_26 rfl ?_
    refine j_bipush X (20 : Int32) dL_isFlagSo_27 (by rfl) ?_
    refine j_icmp_ge X 146 dL_isFlagSo_29 (by decide) ?_ ?_
    · refine j_bud (bc1 := 14) (bs1 := 84) (by omega) (by omega) ?_
      refine j_iload_n X 2 rfl dL_isFlagSo_146 rfl ?_
      refine j_bipush X (20 : Int32) dL_isFlagSo_147 (by rfl) ?_
      refine j_join (fun k8 => ∀ (x14 : Int32), J κ 8 rm_L_isFlagSo (jQf κ rm_L_isFlagSo rvI (fun S9 M9 => M9 = memG 0 358 (kD κ) (kB κ) S9 X9) z) (k8 x14) (memG 0 358 (kD κ) (kB κ) S6 X9) z 13 78 [] 166 [.int x14]) ?_ (fun k8 hk8 => ?_)
      · intro x14
        exact j_zret X dL_isFlagSo_166 rfl (fun _ h => h)
      · refine j_join (fun k9 => ∀ (_ : Unit), J κ 8 rm_L_isFlagSo (jQf κ rm_L_isFlagSo rvI (fun S9 M9 => M9 = memG 0 358 (kD κ) (kB κ) S9 X9) z) (k9 ()) (memG 0 358 (kD κ) (kB κ) S6 X9) z 13 78 [] 165 []) ?_ (fun k9 hk9 => ?_)
        · intro _
          refine j_iconst X (0 : Int32) dL_isFlagSo_165 (by rfl) ?_
          exact hk8 (0 : Int32)
        · refine j_icmp_ne X 165 dL_isFlagSo_149 (by decide) ?_ ?_
          · refine j_aload_n X 0 rfl dL_isFlagSo_152 rfl ?_
            refine j_iload_n X 1 rfl dL_isFlagSo_153 rfl ?_
            refine j_call0V X 13 78 (c_X10_rules X.tr S6 X9 z p1) me_X10_rules ml_L_134 iv_X10_rules cf_X10 dL_isFlagSo_154 (memG_at kf_0) (rest := []) rfl rfl (by decide) (by decide) (Nat.le_of_ble_eq_true rfl) (fun v10 u13 M12 hM11 => ?_)
            subst M12
            refine j_st (st1 := [.int v10]) rfl ?_
            refine j_iconst X (5 : Int32) dL_isFlagSo_157 (by rfl) ?_
            refine j_icmp_gt X 165 dL_isFlagSo_158 (by decide) ?_ ?_
            · refine j_lv [] rfl ?_
              exact hk9 ()
            · refine j_iconst X (1 : Int32) dL_isFlagSo_161 (by rfl) ?_
              refine j_goto X 166 dL_isFlagSo_162 (by decide) ?_
              refine j_lv [] rfl ?_
              exact hk8 (1 : Int32)
          · refine j_lv [] rfl ?_
            refine j_bud (bc1 := 13) (bs1 := 78) (by decide) (by decide) ?_
            exact hk9 ()
    · refine j_aload_n X 0 rfl dL_isFlagSo_32 rfl ?_
      refine j_iload_n X 3 rfl dL_isFlagSo_33 rfl ?_
      refine j_iload_n X 1 rfl dL_isFlagSo_34 rfl ?_
      refine j_call0V X (11 * n9 + 12) (66 * n9 + 72) (c_X10_view X.tr S6 X9 z x7 p1) me_X10_view ml_L_137 iv_X10_view cf_X10 dL_isFlagSo_35 (memG_at kf_0) (rest := []) rfl rfl (by decide) ⟨by show 2 + _ ≤ _; omega, by show 12 + _ ≤ _; omega⟩ (Nat.le_of_ble_eq_true rfl) (fun v15 S16 M46 hM45 => ?_)
      subst M46
      refine j_st (st1 := [.int v15]) rfl ?_
      refine j_istore X [(4, .int v15), (0, .ref (kB κ + 0)), (1, .int p1), (2, .int x3), (3, .int x7)] dL_isFlagSo_38 (by decide) rfl ?_
      refine j_aload_n X 1 rfl dL_isFlagSo_40 rfl ?_
      refine j_iload_n X 4 rfl dL_isFlagSo_41 rfl ?_
      refine j_iload_n X 2 rfl dL_isFlagSo_42 rfl ?_
      refine j_call0V X (11 * n9 + 10) (66 * n9 + 60) (c_X10_ruleFor X.tr S16 X9 z x7 p1) me_X10_ruleFor ml_L_159 iv_X10_ruleFor cf_X10 dL_isFlagSo_43 (memG_at kf_0) (rest := []) rfl rfl (by decide) ⟨by show 2 + _ ≤ _; omega, by show 12 + _ ≤ _; omega⟩ (Nat.le_of_ble_eq_true rfl) (fun v17 u44 M43 hM42 => ?_)
      subst M43
      refine j_st (st1 := [.int v17]) rfl ?_
      refine j_istore X [(5, .int v17), (4, .int v15), (0, .ref (kB κ + 0)), (1, .int p1), (2, .int x3), (3, .int x7)] dL_isFlagSo_46 (by decide) rfl ?_
      refine j_aload_n X 2 rfl dL_isFlagSo_48 rfl ?_
      refine j_iload_n X 5 rfl dL_isFlagSo_49 rfl ?_
      refine j_iload_n X 3 rfl dL_isFlagSo_50 rfl ?_
      refine j_call0V X (11 * n9 + 8) (66 * n9 + 48) (c_X10_shownLast X.tr S16 X9 z x7 p1) me_X10_shownLast ml_L_144 iv_X10_shownLast cf_X10 dL_isFlagSo_51 (memG_at kf_0) (rest := []) rfl rfl (by decide) ⟨by show 2 + _ ≤ _; omega, by show 12 + _ ≤ _; omega⟩ (Nat.le_of_ble_eq_true rfl) (fun v18 u41 M40 hM39 => ?_)
      subst M40
      refine j_st (st1 := [.int v18]) rfl ?_
      refine j_istore X [(6, .int v18), (5, .int v17), (4, .int v15), (0, .ref (kB κ + 0)), (1, .int p1), (2, .int x3), (3, .int x7)] dL_isFlagSo_54 (by decide) rfl ?_
      refine j_iload X 2 rfl dL_isFlagSo_56 ?_
      refine j_join (fun k19 => ∀ (S30 : jS) (x31 : Int32), J κ 8 rm_L_isFlagSo (jQf κ rm_L_isFlagSo rvI (fun S9 M9 => M9 = memG 0 358 (kD κ) (kB κ) S9 X9) z) (k19 S30 x31) (memG 0 358 (kD κ) (kB κ) S30 X9) z (11 * n9 + 5) (66 * n9 + 30) [(0, .ref (kB κ + 0)), (1, .int p1), (2, .int x3), (3, .int x7), (4, .int v15), (5, .int v17)] 111 [.int x31]) ?_ (fun k19 hk19 => ?_)
      · intro S30 x31
        refine j_istore X [(7, .int x31), (0, .ref (kB κ + 0)), (1, .int p1), (2, .int x3), (3, .int x7), (4, .int v15), (5, .int v17)] dL_isFlagSo_111 (by decide) rfl ?_
        refine j_iload X 0 rfl dL_isFlagSo_113 ?_
        refine j_join (fun k32 => ∀ (_ : Unit), J κ 8 rm_L_isFlagSo (jQf κ rm_L_isFlagSo rvI (fun S9 M9 => M9 = memG 0 358 (kD κ) (kB κ) S9 X9) z) (k32 ()) (memG 0 358 (kD κ) (kB κ) S30 X9) z 3 18 [] 138 []) ?_ (fun k32 hk32 => ?_)
        · intro _
          refine j_iconst X (0 : Int32) dL_isFlagSo_138 (by rfl) ?_
          exact j_zret X dL_isFlagSo_139 rfl (fun _ h => h)
        · refine j_if_eq X 138 dL_isFlagSo_115 (by decide) ?_ ?_
          · refine j_bud (bc1 := 5) (bs1 := 30) (by omega) (by omega) ?_
            refine j_lv [] rfl ?_
            refine j_bud (bc1 := 3) (bs1 := 18) (by decide) (by decide) ?_
            exact hk32 ()
          · refine j_iload X 6 rfl dL_isFlagSo_118 ?_
            refine j_iconst X (-1 : Int32) dL_isFlagSo_120 (by rfl) ?_
            refine j_join (fun k33 => ∀ (_ : Unit), J κ 8 rm_L_isFlagSo (jQf κ rm_L_isFlagSo rvI (fun S9 M9 => M9 = memG 0 358 (kD κ) (kB κ) S9 X9) z) (k33 ()) (memG 0 358 (kD κ) (kB κ) S30 X9) z (11 * n9 + 3) (66 * n9 + 18) [(0, .ref (kB κ + 0)), (1, .int p1), (2, .int x3), (3, .int x7)] 140 []) ?_ (fun k33 hk33 => ?_)
            · intro _
              refine j_iincL X 3 (fun x38 => [(3, .int x38), (0, .ref (kB κ + 0)), (1, .int p1), (2, .int x3)]) dL_isFlagSo_140 rfl (by rfl) (by decide) (fun _ => rfl) (fun x38 => ?_)
              refine j_goto X 26 dL_isFlagSo_143 (by decide) ?_
              refine j_lv [1, 2, 3, 0] rfl ?_
              exact hrec5 S30 x38
            · refine j_icmp_ne X 140 dL_isFlagSo_121 (by decide) ?_ ?_
              · refine j_aload_n X 1 rfl dL_isFlagSo_124 rfl ?_
                refine j_iload_n X 4 rfl dL_isFlagSo_125 rfl ?_
                refine j_iload_n X 2 rfl dL_isFlagSo_126 rfl ?_
                refine j_call0V X (11 * n9 + 3) (66 * n9 + 18) (c_X10_isHeld X.tr S30 X9 z x7 p1) me_X10_isHeld ml_L_140 iv_X10_isHeld cf_X10 dL_isFlagSo_127 (memG_at kf_0) (rest := []) rfl rfl (by decide) ⟨by show 2 + _ ≤ _; omega, by show 12 + _ ≤ _; omega⟩ (Nat.le_of_ble_eq_true rfl) (fun v34 u37 M36 hM35 => ?_)
                subst M36
                refine j_st (st1 := [.int v34]) rfl ?_
                refine j_if_ne X 140 dL_isFlagSo_130 (by decide) ?_ ?_
                · refine j_iload X 5 rfl dL_isFlagSo_133 ?_
                  refine j_if_eq X 140 dL_isFlagSo_135 (by decide) ?_ ?_
                  · refine j_lv [1, 2, 3, 4] rfl ?_
                    exact hk33 ()
                  · refine j_bud (bc1 := 3) (bs1 := 18) (by omega) (by omega) ?_
                    refine j_lv [] rfl ?_
                    exact hk32 ()
                · refine j_lv [1, 2, 3, 4] rfl ?_
                  exact hk33 ()
              · refine j_lv [1, 2, 3, 4] rfl ?_
                refine j_bud (bc1 := (11 * n9 + 3)) (bs1 := (66 * n9 + 18)) (by omega) (by omega) ?_
                exact hk33 ()
      · refine j_join (fun k20 => ∀ (S29 : jS), J κ 8 rm_L_isFlagSo (jQf κ rm_L_isFlagSo rvI (fun S9 M9 => M9 = memG 0 358 (kD κ) (kB κ) S9 X9) z) (k20 S29) (memG 0 358 (kD κ) (kB κ) S29 X9) z (11 * n9 + 5) (66 * n9 + 30) [(0, .ref (kB κ + 0)), (1, .int p1), (2, .int x3), (3, .int x7), (4, .int v15), (5, .int v17)] 110 []) ?_ (fun k20 hk20 => ?_)
        · intro S29
          refine j_iconst X (0 : Int32) dL_isFlagSo_110 (by rfl) ?_
          exact hk19 S29 (0 : Int32)
        · refine j_if_lt X 110 dL_isFlagSo_58 (by decide) ?_ ?_
          · refine j_lv [3, 4, 5, 6, 2, 1] rfl ?_
            refine j_bud (bc1 := (11 * n9 + 5)) (bs1 := (66 * n9 + 30)) (by omega) (by omega) ?_
            exact hk20 S16
          · refine j_iload X 2 rfl dL_isFlagSo_61 ?_
            refine j_iconst X (4 : Int32) dL_isFlagSo_63 (by rfl) ?_
            refine j_icmp_ge X 110 dL_isFlagSo_64 (by decide) ?_ ?_
            · refine j_lv [3, 4, 5, 6, 2, 1] rfl ?_
              refine j_bud (bc1 := (11 * n9 + 5)) (bs1 := (66 * n9 + 30)) (by omega) (by omega) ?_
              exact hk20 S16
            · refine j_aload_n X 3 rfl dL_isFlagSo_67 rfl ?_
              refine j_iload_n X 6 rfl dL_isFlagSo_68 rfl ?_
              refine j_iload_n X 4 rfl dL_isFlagSo_69 rfl ?_
              refine j_call0V X (11 * n9 + 6) (66 * n9 + 36) (c_X10_viewByLog X.tr S16 X9 z L hL x7 p1) me_X10_viewByLog ml_L_162 iv_X10_viewByLog cf_X10 dL_isFlagSo_70 (memG_at kf_0) (rest := []) rfl rfl (by decide) ⟨by show 2 + _ ≤ _; omega, by show 12 + _ ≤ _; omega⟩ (Nat.le_of_ble_eq_true rfl) (fun v21 S22 M28 hM27 => ?_)
              subst M28
              refine j_st (st1 := [.int v21]) rfl ?_
              refine j_iload X 2 rfl dL_isFlagSo_73 ?_
              refine j_icmp_ne X 110 dL_isFlagSo_75 (by decide) ?_ ?_
              · refine j_iload X 1 rfl dL_isFlagSo_78 ?_
                refine j_iconst X (-1 : Int32) dL_isFlagSo_80 (by rfl) ?_
                refine j_icmp_lt X 110 dL_isFlagSo_81 (by decide) ?_ ?_
                · refine j_lv [3, 4, 5, 6, 2, 1] rfl ?_
                  refine j_bud (bc1 := (11 * n9 + 5)) (bs1 := (66 * n9 + 30)) (by omega) (by omega) ?_
                  exact hk20 S22
                · refine j_iload X 1 rfl dL_isFlagSo_84 ?_
                  refine j_aload_n X 3 rfl dL_isFlagSo_86 rfl ?_
                  refine j_iload_n X 4 rfl dL_isFlagSo_87 rfl ?_
                  refine j_call0V X (11 * n9 + 5) (66 * n9 + 30) (c_X10_rules X.tr S22 X9 z p1) me_X10_rules ml_L_134 iv_X10_rules cf_X10 dL_isFlagSo_88 (memG_at kf_0) (rest := [.int v17]) rfl rfl (by decide) ⟨by show 1 + _ ≤ _; omega, by show 6 + _ ≤ _; omega⟩ (Nat.le_of_ble_eq_true rfl) (fun v23 u26 M25 hM24 => ?_)
                  subst M25
                  refine j_st (st1 := [.int v23, .int v17]) rfl ?_
                  refine j_icmp_ge X 110 dL_isFlagSo_91 (by decide) ?_ ?_
                  · refine j_lv [3, 4, 5, 6, 2, 1] rfl ?_
                    exact hk20 S22
                  · refine j_iload X 0 rfl dL_isFlagSo_94 ?_
                    refine j_iconst X (-1 : Int32) dL_isFlagSo_96 (by rfl) ?_
                    refine j_icmp_lt X 110 dL_isFlagSo_97 (by decide) ?_ ?_
                    · refine j_lv [3, 4, 5, 6, 2, 1] rfl ?_
                      exact hk20 S22
                    · refine j_iload X 0 rfl dL_isFlagSo_100 ?_
                      refine j_iconst X (4 : Int32) dL_isFlagSo_102 (by rfl) ?_
                      refine j_icmp_ge X 110 dL_isFlagSo_103 (by decide) ?_ ?_
                      · refine j_lv [3, 4, 5, 6, 2, 1] rfl ?_
                        exact hk20 S22
                      · refine j_iconst X (1 : Int32) dL_isFlagSo_106 (by rfl) ?_
                        refine j_goto X 111 dL_isFlagSo_107 (by decide) ?_
                        refine j_lv [3, 4, 5, 6, 2, 1] rfl ?_
                        exact hk19 S22 (1 : Int32)
              · refine j_lv [3, 4, 5, 6, 2, 1] rfl ?_
                refine j_bud (bc1 := (11 * n9 + 5)) (bs1 := (66 * n9 + 30)) (by omega) (by omega) ?_
                exact hk20 S22
  · refine j_iload_n X 2 rfl dL_isFlagSo_9 rfl ?_
    refine j_aload_n X 0 rfl dL_isFlagSo_10 rfl ?_
    refine j_iload_n X 1 rfl dL_isFlagSo_11 rfl ?_
    refine j_iload_n X 3 rfl dL_isFlagSo_12 rfl ?_
    refine j_call0V X (2 * n9 + 441) (12 * n9 + 2646) (c_X10_reach X.tr S2 X9 z p1 x4) me_X10_reach ml_L_156 iv_X10_reach cf_X10 dL_isFlagSo_13 (memG_at kf_0) (rest := [.int x3]) rfl rfl (by decide) ⟨by show 2 + _ ≤ _; omega, by show 12 + _ ≤ _; omega⟩ (Nat.le_of_ble_eq_true rfl) (fun v47 S48 M52 hM51 => ?_)
    subst M52
    refine j_st (st1 := [.int v47, .int x3]) rfl ?_
    refine j_iadd X dL_isFlagSo_16 ?_
    refine j_letE (fun x49 => ?_)
    refine j_istore_n X [(2, .int x49), (0, .ref (kB κ + 0)), (1, .int p1), (3, .int x4)] dL_isFlagSo_17 rfl (by decide) rfl ?_
    refine j_iincL X 3 (fun x50 => [(3, .int x50), (2, .int x49), (0, .ref (kB κ + 0)), (1, .int p1)]) dL_isFlagSo_18 rfl (by rfl) (by decide) (fun _ => rfl) (fun x50 => ?_)
    refine j_goto X 4 dL_isFlagSo_21 (by decide) ?_
    refine j_lv [2, 3, 1, 0] rfl ?_
    exact hrec1 S48 x49 x50
def f_L_isTrialSo (S : jS) (p1 : Int32) : Option (jR Unit) := loopK (fun (rec1 : Int32 → Option (jR Unit)) (x2 : Int32) => (if (20 : Int32) ≤ x2 then chk (isb (1 : Int32)) (some (0, (1 : Int32), ())) else jbin0 (f_X10_arm S p1 x2) (fun v3 _ => jbin0 (f_X10_kept S p1 x2) (fun v4 _ => joinK (fun (_ : Unit) => chk (isb (0 : Int32)) (some (0, (0 : Int32), ()))) (fun k5 => (if v3 < (0 : Int32) then k5 () else (if (3 : Int32) < v3 then k5 () else (if v4 < (-1 : Int32) then k5 () else (if v4 ≤ (3 : Int32) then letE (x2 + (1 : Int32)) fun x6 => rec1 x6 else k5 ()))))))))) (fun _ => none) 40 (0 : Int32)
abbrev rm_L_isTrialSo : Room := { frames := 9, cells := 160, slots := 960, locals := 154 }
set_option maxHeartbeats 4000000 in
set_option maxRecDepth 100000 in
theorem c_L_isTrialSo {l : Launch} {D : va_G} {B t0 : Nat} (hl9 : l.stackTraces = false) (S : jS) (X9 : jMem) (z : Nat → Prop) (p1 : Int32) : jCf l D B t0 yL_isTrialSo cL_isTrialSo 5 (some .boolean) rm_L_isTrialSo [.ref (B + 0), .int p1] (memG 0 358 D B S X9) z (f_L_isTrialSo S p1) rvI (fun (S9 : Unit) M9 => M9 = memG 0 358 D B S X9) z := by
  refine jC_of hl9 (me_L_isTrialSo).1 [(0, .ref (B + 0)), (1, .int p1)] ⟨by decide +kernel, Nat.le_of_ble_eq_true rfl⟩ rfl (fun κ hl hD hB hT X htab hin => ?_)
  subst hl hD hB hT
  have X : jX κ RL cL_isTrialSo 5 (some .boolean) := X
  unfold f_L_isTrialSo
  refine j_iconst X (0 : Int32) dL_isTrialSo_0 (by rfl) ?_
  refine j_istore_n X [(2, .int (0 : Int32)), (0, .ref (kB κ + 0)), (1, .int p1)] dL_isTrialSo_1 rfl (by decide) rfl ?_
  refine j_bud (bc1 := 4 * 40 + 0) (bs1 := 24 * 40 + 0) (by decide) (by decide) ?_
  refine j_lv [1, 2, 0] rfl ?_
  refine j_loopB (fun (n9 : Nat) (k : Int32 → Option (jR Unit)) => ∀ (x2 : Int32), J κ 5 rm_L_isTrialSo (jQf κ rm_L_isTrialSo rvI (fun (S9 : Unit) M9 => M9 = memG 0 358 (kD κ) (kB κ) S X9) z) (k x2) (memG 0 358 (kD κ) (kB κ) S X9) z (4 * n9 + 0) (24 * n9 + 0) [(0, .ref (kB κ + 0)), (1, .int p1), (2, .int x2)] 2 []) (fun _ _ => j_none) (fun n9 rec1 hrec1 => ?_) 40 _
  intro x2
  refine j_bud (bc1 := (4 * n9 + 4)) (bs1 := (24 * n9 + 24)) (by omega) (by omega) ?_
  refine j_iload_n X 2 rfl dL_isTrialSo_2 rfl ?_
  refine j_bipush X (20 : Int32) dL_isTrialSo_3 (by rfl) ?_
  refine j_icmp_ge X 52 dL_isTrialSo_5 (by decide) ?_ ?_
  · refine j_bud (bc1 := 4) (bs1 := 24) (by omega) (by omega) ?_
    refine j_iconst X (1 : Int32) dL_isTrialSo_52 (by rfl) ?_
    exact j_zret X dL_isTrialSo_53 rfl (fun _ h => h)
  · refine j_aload_n X 0 rfl dL_isTrialSo_8 rfl ?_
    refine j_iload_n X 1 rfl dL_isTrialSo_9 rfl ?_
    refine j_iload_n X 2 rfl dL_isTrialSo_10 rfl ?_
    refine j_call0V X (4 * n9 + 2) (24 * n9 + 12) (c_X10_arm X.tr S X9 z p1 x2) me_X10_arm ml_L_153 iv_X10_arm cf_X10 dL_isTrialSo_11 (memG_at kf_0) (rest := []) rfl rfl (by decide) ⟨by show 2 + _ ≤ _; omega, by show 12 + _ ≤ _; omega⟩ (Nat.le_of_ble_eq_true rfl) (fun v3 u12 M11 hM10 => ?_)
    subst M11
    refine j_st (st1 := [.int v3]) rfl ?_
    refine j_istore_n X [(3, .int v3), (0, .ref (kB κ + 0)), (1, .int p1), (2, .int x2)] dL_isTrialSo_14 rfl (by decide) rfl ?_
    refine j_aload_n X 1 rfl dL_isTrialSo_15 rfl ?_
    refine j_iload_n X 2 rfl dL_isTrialSo_16 rfl ?_
    refine j_iload_n X 3 rfl dL_isTrialSo_17 rfl ?_
    refine j_call0V X (4 * n9 + 0) (24 * n9 + 0) (c_X10_kept X.tr S X9 z p1 x2) me_X10_kept ml_L_150 iv_X10_kept cf_X10 dL_isTrialSo_18 (memG_at kf_0) (rest := []) rfl rfl (by decide) ⟨by show 2 + _ ≤ _; omega, by show 12 + _ ≤ _; omega⟩ (Nat.le_of_ble_eq_true rfl) (fun v4 u9 M8 hM7 => ?_)
    subst M8
    refine j_st (st1 := [.int v4]) rfl ?_
    refine j_istore X [(4, .int v4), (3, .int v3), (0, .ref (kB κ + 0)), (1, .int p1), (2, .int x2)] dL_isTrialSo_21 (by decide) rfl ?_
    refine j_iload_n X 1 rfl dL_isTrialSo_23 rfl ?_
    refine j_join (fun k5 => ∀ (_ : Unit), J κ 5 rm_L_isTrialSo (jQf κ rm_L_isTrialSo rvI (fun (S9 : Unit) M9 => M9 = memG 0 358 (kD κ) (kB κ) S X9) z) (k5 ()) (memG 0 358 (kD κ) (kB κ) S X9) z 0 0 [] 44 []) ?_ (fun k5 hk5 => ?_)
    · intro _
      refine j_iconst X (0 : Int32) dL_isTrialSo_44 (by rfl) ?_
      exact j_zret X dL_isTrialSo_45 rfl (fun _ h => h)
    · refine j_if_lt X 44 dL_isTrialSo_24 (by decide) ?_ ?_
      · refine j_bud (bc1 := 0) (bs1 := 0) (by omega) (by omega) ?_
        refine j_lv [] rfl ?_
        exact hk5 ()
      · refine j_iload_n X 1 rfl dL_isTrialSo_27 rfl ?_
        refine j_iconst X (3 : Int32) dL_isTrialSo_28 (by rfl) ?_
        refine j_icmp_gt X 44 dL_isTrialSo_29 (by decide) ?_ ?_
        · refine j_bud (bc1 := 0) (bs1 := 0) (by omega) (by omega) ?_
          refine j_lv [] rfl ?_
          exact hk5 ()
        · refine j_iload X 0 rfl dL_isTrialSo_32 ?_
          refine j_iconst X (-1 : Int32) dL_isTrialSo_34 (by rfl) ?_
          refine j_icmp_lt X 44 dL_isTrialSo_35 (by decide) ?_ ?_
          · refine j_bud (bc1 := 0) (bs1 := 0) (by omega) (by omega) ?_
            refine j_lv [] rfl ?_
            exact hk5 ()
          · refine j_iload X 0 rfl dL_isTrialSo_38 ?_
            refine j_iconst X (3 : Int32) dL_isTrialSo_40 (by rfl) ?_
            refine j_icmp_le X 46 dL_isTrialSo_41 (by decide) ?_ ?_
            · refine j_iincL X 4 (fun x6 => [(2, .int x6), (4, .int v4), (3, .int v3), (0, .ref (kB κ + 0)), (1, .int p1)]) dL_isTrialSo_46 rfl (by rfl) (by decide) (fun _ => rfl) (fun x6 => ?_)
              refine j_goto X 2 dL_isTrialSo_49 (by decide) ?_
              refine j_lv [3, 4, 0] rfl ?_
              exact hrec1 x6
            · refine j_bud (bc1 := 0) (bs1 := 0) (by omega) (by omega) ?_
              refine j_lv [] rfl ?_
              exact hk5 ()
def f_L_isMovedSo (S : jS) (L : jLg) (p1 : Int32) : Option (jR jSL) := jbin0 (f_L_wouldMove S L p1) (fun v1 S2 => (if (0 : Int32) ≤ v1 then loopK (fun (rec4 : jS → Int64 → Int32 → Option (jR jSL)) (S5 : jS) (x6 : Int64) (x7 : Int32) => (if (31 : Int32) ≤ x7 then jbin0 (f_X10_set S5 p1) (fun v8 S9 => loopK (fun (rec10 : jS → Int64 → Int32 → Option (jR jSL)) (S11 : jS) (x12 : Int64) (x13 : Int32) => (if (31 : Int32) ≤ x13 then loopK (fun (rec14 : Int32 → Int32 → Option (jR jSL)) (x15 : Int32) (x16 : Int32) => (if (4 : Int32) ≤ x16 then joinK (fun (S26 : jS) => chk (isb (0 : Int32)) (some (0, (0 : Int32), (S26, S2.2)))) (fun k17 => (if v1 < x15 then k17 S11 else (if (20 : Int32) < v1 then k17 S11 else (if v8 < (0 : Int32) then k17 S11 else (if (20 : Int32) < v8 then k17 S11 else jbin0 (f_X10_set S11 p1) (fun v18 S19 => (if v18 = (0 : Int32) then jbin0 (f_X10_wouldMove S19 p1) (fun v20 S21 => (if v20 = (0 : Int32) then chk (isb (1 : Int32)) (some (0, (1 : Int32), (S21, S2.2))) else k17 S21)) else k17 S19))))))) else joinK (fun (x28 : Int32) => letE (x15 + x28) fun x29 => letE (x16 + (1 : Int32)) fun x30 => rec14 x29 x30) (fun k27 => (if (lg_cmp (((x6 >>> ((((16 : Int32) * x16)).toInt64 &&& 63)) &&& (65535 : Int64))) (((x12 >>> ((((16 : Int32) * x16)).toInt64 &&& 63)) &&& (65535 : Int64)))) = (0 : Int32) then k27 (0 : Int32) else k27 (1 : Int32))))) (fun _ _ => none) 40 (0 : Int32) (0 : Int32) else jbin0 (f_X10_view S11 ((x13 / (8 : Int32))) ((x13 - x13 / (8 : Int32) * (8 : Int32)))) (fun v31 S32 => letE ((x12 ||| (v31.toInt64 <<< ((((2 : Int32) * x13)).toInt64 &&& 63)))) fun x33 => letE (x13 + (1 : Int32)) fun x34 => rec10 S32 x33 x34))) (fun _ _ _ => none) 40 S9 (0 : Int64) (0 : Int32)) else jbin0 (f_X10_view S5 ((x7 / (8 : Int32))) ((x7 - x7 / (8 : Int32) * (8 : Int32)))) (fun v39 S40 => letE ((x6 ||| (v39.toInt64 <<< ((((2 : Int32) * x7)).toInt64 &&& 63)))) fun x41 => letE (x7 + (1 : Int32)) fun x42 => rec4 S40 x41 x42))) (fun _ _ _ => none) 40 S2.1 (0 : Int64) (0 : Int32) else jbin0 (f_L_set S2.1 S2.2 p1) (fun v45 S46 => (if v45 = (-99999 : Int32) then chk (isb (1 : Int32)) (some (0, (1 : Int32), (S46.1, S46.2))) else chk (isb (0 : Int32)) (some (0, (0 : Int32), (S46.1, S46.2)))))))
abbrev rm_L_isMovedSo : Room := { frames := 10, cells := 170, slots := 1020, locals := 183 }
set_option maxHeartbeats 4000000 in
set_option maxRecDepth 100000 in
theorem c_L_isMovedSo {l : Launch} {D : va_G} {B t0 : Nat} (hl9 : l.stackTraces = false) (S : jS) (X9 : jMem) (L : jLg) (hL : LogX D B t0 L X9) (p1 : Int32) : jCf l D B t0 yL_isMovedSo cL_isMovedSo 10 (some .boolean) rm_L_isMovedSo [.ref (B + 0), .int p1] (memG 0 358 D B S X9) (zD D) (f_L_isMovedSo S L p1) rvI (fun (S9 : jSL) M9 => ∃ X1, M9 = memG 0 358 D B S9.1 X1 ∧ LogK D B t0 X9 S9.2 X1) (zD D) := by
  refine jC_of hl9 (me_L_isMovedSo).1 [(0, .ref (B + 0)), (1, .int p1)] ⟨by decide +kernel, Nat.le_of_ble_eq_true rfl⟩ rfl (fun κ hl hD hB hT X htab hin => ?_)
  subst hl hD hB hT
  have X : jX κ RL cL_isMovedSo 10 (some .boolean) := X
  have hK : LogK (kD κ) (kB κ) (kT κ) X9 L X9 := LogK.rf hL
  unfold f_L_isMovedSo
  refine j_aload_n X 0 rfl dL_isMovedSo_0 rfl ?_
  refine j_iload_n X 1 rfl dL_isMovedSo_1 rfl ?_
  refine j_call0SH X 168 1008 (c_L_wouldMove X.tr S X9 L hK.1 p1) mh_L_wouldMove ml_L_102 st_L_wouldMove dL_isMovedSo_2 (rest := []) rfl rfl (by decide) (by decide) (Nat.le_of_ble_eq_true rfl) (fun v1 S2 M51 hM50 => ?_)
  obtain ⟨X3, rfl, hKX31⟩ := hM50
  have hKX3 := (hK).trans hKX31
  refine j_st (st1 := [.int v1]) rfl ?_
  refine j_istore_n X [(2, .int v1), (0, .ref (kB κ + 0)), (1, .int p1)] dL_isMovedSo_5 rfl (by decide) rfl ?_
  refine j_iload_n X 0 rfl dL_isMovedSo_6 rfl ?_
  refine j_if_ge X 26 dL_isMovedSo_7 (by decide) ?_ ?_
  · refine j_iconst X (0 : Int32) dL_isMovedSo_26 (by rfl) ?_
    refine j_istore_n X [(3, .int (0 : Int32)), (2, .int v1), (0, .ref (kB κ + 0)), (1, .int p1)] dL_isMovedSo_27 rfl (by decide) rfl ?_
    refine j_lconst X (0 : Int64) dL_isMovedSo_28 (by rfl) ?_
    refine j_lstore X [(4, .long (0 : Int64)), (3, .int (0 : Int32)), (2, .int v1), (0, .ref (kB κ + 0)), (1, .int p1)] dL_isMovedSo_29 (by decide) rfl ?_
    refine j_lconst X (0 : Int64) dL_isMovedSo_31 (by rfl) ?_
    refine j_lstore X [(6, .long (0 : Int64)), (4, .long (0 : Int64)), (3, .int (0 : Int32)), (2, .int v1), (0, .ref (kB κ + 0)), (1, .int p1)] dL_isMovedSo_32 (by decide) rfl ?_
    refine j_iconst X (0 : Int32) dL_isMovedSo_34 (by rfl) ?_
    refine j_istore X [(8, .int (0 : Int32)), (6, .long (0 : Int64)), (4, .long (0 : Int64)), (3, .int (0 : Int32)), (2, .int v1), (0, .ref (kB κ + 0)), (1, .int p1)] dL_isMovedSo_35 (by decide) rfl ?_
    refine j_bud (bc1 := 2 * 40 + 88) (bs1 := 12 * 40 + 528) (by decide) (by decide) ?_
    refine j_lv [5, 6, 4, 3, 2, 1, 0] rfl ?_
    refine j_loopB (fun (n9 : Nat) (k : jS → Int64 → Int32 → Option (jR jSL)) => ∀ (S5 : jS) (x6 : Int64) (x7 : Int32), J κ 10 rm_L_isMovedSo (jQf κ rm_L_isMovedSo rvI (fun (S9 : jSL) M9 => ∃ X1, M9 = memG 0 358 (kD κ) (kB κ) S9.1 X1 ∧ LogK (kD κ) (kB κ) (kT κ) X9 S9.2 X1) (zD (kD κ))) (k S5 x6 x7) (memG 0 358 (kD κ) (kB κ) S5 X3) (zD (kD κ)) (2 * n9 + 88) (12 * n9 + 528) [(0, .ref (kB κ + 0)), (1, .int p1), (2, .int v1), (3, .int (0 : Int32)), (4, .long x6), (6, .long (0 : Int64)), (8, .int x7)] 37 []) (fun _ _ _ _ => j_none) (fun n9 rec4 hrec4 => ?_) 40 _ _ _
    intro S5 x6 x7
    refine j_bud (bc1 := (2 * n9 + 90)) (bs1 := (12 * n9 + 540)) (by omega) (by omega) ?_
    refine j_iload X 6 rfl dL_isMovedSo_37 ?_
    refine j_bipush X (31 : Int32) dL_isMovedSo_39 (by rfl) ?_
    refine j_icmp_ge X 75 dL_isMovedSo_41 (by decide) ?_ ?_
    · refine j_bud (bc1 := 90) (bs1 := 540) (by omega) (by omega) ?_
      refine j_aload_n X 0 rfl dL_isMovedSo_75 rfl ?_
      refine j_iload_n X 1 rfl dL_isMovedSo_76 rfl ?_
      refine j_call0V X 88 528 (c_X10_set X.tr S5 X3 (zD (kD κ)) p1) me_X10_set ml_L_30 iv_X10_set cf_X10 dL_isMovedSo_77 (memG_at kf_0) (rest := []) rfl rfl (by decide) (by decide) (Nat.le_of_ble_eq_true rfl) (fun v8 S9 M38 hM37 => ?_)
      subst M38
      refine j_st (st1 := [.int v8]) rfl ?_
      refine j_istore X [(8, .int v8), (0, .ref (kB κ + 0)), (1, .int p1), (2, .int v1), (3, .int (0 : Int32)), (4, .long x6), (6, .long (0 : Int64))] dL_isMovedSo_80 (by decide) rfl ?_
      refine j_iconst X (0 : Int32) dL_isMovedSo_82 (by rfl) ?_
      refine j_istore X [(9, .int (0 : Int32)), (8, .int v8), (0, .ref (kB κ + 0)), (1, .int p1), (2, .int v1), (3, .int (0 : Int32)), (4, .long x6), (6, .long (0 : Int64))] dL_isMovedSo_83 (by decide) rfl ?_
      refine j_bud (bc1 := 2 * 40 + 8) (bs1 := 12 * 40 + 48) (by decide) (by decide) ?_
      refine j_lv [2, 3, 4, 5, 6, 7, 1, 0] rfl ?_
      refine j_loopB (fun (n9 : Nat) (k : jS → Int64 → Int32 → Option (jR jSL)) => ∀ (S11 : jS) (x12 : Int64) (x13 : Int32), J κ 10 rm_L_isMovedSo (jQf κ rm_L_isMovedSo rvI (fun (S9 : jSL) M9 => ∃ X1, M9 = memG 0 358 (kD κ) (kB κ) S9.1 X1 ∧ LogK (kD κ) (kB κ) (kT κ) X9 S9.2 X1) (zD (kD κ))) (k S11 x12 x13) (memG 0 358 (kD κ) (kB κ) S11 X3) (zD (kD κ)) (2 * n9 + 8) (12 * n9 + 48) [(0, .ref (kB κ + 0)), (1, .int p1), (2, .int v1), (3, .int (0 : Int32)), (4, .long x6), (6, .long x12), (8, .int v8), (9, .int x13)] 85 []) (fun _ _ _ _ => j_none) (fun n9 rec10 hrec10 => ?_) 40 _ _ _
      intro S11 x12 x13
      refine j_bud (bc1 := (2 * n9 + 10)) (bs1 := (12 * n9 + 60)) (by omega) (by omega) ?_
      refine j_iload X 7 rfl dL_isMovedSo_85 ?_
      refine j_bipush X (31 : Int32) dL_isMovedSo_87 (by rfl) ?_
      refine j_icmp_ge X 123 dL_isMovedSo_89 (by decide) ?_ ?_
      · refine j_bud (bc1 := 10) (bs1 := 60) (by omega) (by omega) ?_
        refine j_iconst X (0 : Int32) dL_isMovedSo_123 (by rfl) ?_
        refine j_istore X [(9, .int (0 : Int32)), (0, .ref (kB κ + 0)), (1, .int p1), (2, .int v1), (3, .int (0 : Int32)), (4, .long x6), (6, .long x12), (8, .int v8)] dL_isMovedSo_124 (by decide) rfl ?_
        refine j_bud (bc1 := 0 * 40 + 10) (bs1 := 0 * 40 + 60) (by decide) (by decide) ?_
        refine j_lv [1, 2, 3, 4, 5, 6, 7, 0] rfl ?_
        refine j_loopB (fun (n9 : Nat) (k : Int32 → Int32 → Option (jR jSL)) => ∀ (x15 : Int32) (x16 : Int32), J κ 10 rm_L_isMovedSo (jQf κ rm_L_isMovedSo rvI (fun (S9 : jSL) M9 => ∃ X1, M9 = memG 0 358 (kD κ) (kB κ) S9.1 X1 ∧ LogK (kD κ) (kB κ) (kT κ) X9 S9.2 X1) (zD (kD κ))) (k x15 x16) (memG 0 358 (kD κ) (kB κ) S11 X3) (zD (kD κ)) (0 * n9 + 10) (0 * n9 + 60) [(0, .ref (kB κ + 0)), (1, .int p1), (2, .int v1), (3, .int x15), (4, .long x6), (6, .long x12), (8, .int v8), (9, .int x16)] 126 []) (fun _ _ _ => j_none) (fun n9 rec14 hrec14 => ?_) 40 _ _
        intro x15 x16
        refine j_bud (bc1 := (0 * n9 + 10)) (bs1 := (0 * n9 + 60)) (by omega) (by omega) ?_
        refine j_iload X 7 rfl dL_isMovedSo_126 ?_
        refine j_iconst X (4 : Int32) dL_isMovedSo_128 (by rfl) ?_
        refine j_icmp_ge X 174 dL_isMovedSo_129 (by decide) ?_ ?_
        · refine j_bud (bc1 := 10) (bs1 := 60) (by omega) (by omega) ?_
          refine j_iload_n X 3 rfl dL_isMovedSo_174 rfl ?_
          refine j_iload_n X 2 rfl dL_isMovedSo_175 rfl ?_
          refine j_join (fun k17 => ∀ (S26 : jS), J κ 10 rm_L_isMovedSo (jQf κ rm_L_isMovedSo rvI (fun (S9 : jSL) M9 => ∃ X1, M9 = memG 0 358 (kD κ) (kB κ) S9.1 X1 ∧ LogK (kD κ) (kB κ) (kT κ) X9 S9.2 X1) (zD (kD κ))) (k17 S26) (memG 0 358 (kD κ) (kB κ) S26 X3) (zD (kD κ)) 6 36 [] 217 []) ?_ (fun k17 hk17 => ?_)
          · intro S26
            refine j_iconst X (0 : Int32) dL_isMovedSo_217 (by rfl) ?_
            exact j_zret X dL_isMovedSo_218 ⟨_, rfl, hKX3⟩ (fun _ h => h)
          · refine j_icmp_gt X 217 dL_isMovedSo_176 (by decide) ?_ ?_
            · refine j_lv [] rfl ?_
              refine j_bud (bc1 := 6) (bs1 := 36) (by decide) (by decide) ?_
              exact hk17 S11
            · refine j_iload_n X 2 rfl dL_isMovedSo_179 rfl ?_
              refine j_bipush X (20 : Int32) dL_isMovedSo_180 (by rfl) ?_
              refine j_icmp_gt X 217 dL_isMovedSo_182 (by decide) ?_ ?_
              · refine j_lv [] rfl ?_
                refine j_bud (bc1 := 6) (bs1 := 36) (by decide) (by decide) ?_
                exact hk17 S11
              · refine j_iload X 6 rfl dL_isMovedSo_185 ?_
                refine j_if_lt X 217 dL_isMovedSo_187 (by decide) ?_ ?_
                · refine j_lv [] rfl ?_
                  refine j_bud (bc1 := 6) (bs1 := 36) (by decide) (by decide) ?_
                  exact hk17 S11
                · refine j_iload X 6 rfl dL_isMovedSo_190 ?_
                  refine j_bipush X (20 : Int32) dL_isMovedSo_192 (by rfl) ?_
                  refine j_icmp_gt X 217 dL_isMovedSo_194 (by decide) ?_ ?_
                  · refine j_lv [] rfl ?_
                    refine j_bud (bc1 := 6) (bs1 := 36) (by decide) (by decide) ?_
                    exact hk17 S11
                  · refine j_aload_n X 0 rfl dL_isMovedSo_197 rfl ?_
                    refine j_iload_n X 1 rfl dL_isMovedSo_198 rfl ?_
                    refine j_call0V X 8 48 (c_X10_set X.tr S11 X3 (zD (kD κ)) p1) me_X10_set ml_L_30 iv_X10_set cf_X10 dL_isMovedSo_199 (memG_at kf_0) (rest := []) rfl rfl (by decide) (by decide) (Nat.le_of_ble_eq_true rfl) (fun v18 S19 M25 hM24 => ?_)
                    subst M25
                    refine j_st (st1 := [.int v18]) rfl ?_
                    refine j_if_ne X 217 dL_isMovedSo_202 (by decide) ?_ ?_
                    · refine j_aload_n X 0 rfl dL_isMovedSo_205 rfl ?_
                      refine j_iload_n X 1 rfl dL_isMovedSo_206 rfl ?_
                      refine j_call0V X 6 36 (c_X10_wouldMove X.tr S19 X3 (zD (kD κ)) p1) me_X10_wouldMove ml_L_34 iv_X10_wouldMove cf_X10 dL_isMovedSo_207 (memG_at kf_0) (rest := []) rfl rfl (by decide) (by decide) (Nat.le_of_ble_eq_true rfl) (fun v20 S21 M23 hM22 => ?_)
                      subst M23
                      refine j_st (st1 := [.int v20]) rfl ?_
                      refine j_if_ne X 217 dL_isMovedSo_210 (by decide) ?_ ?_
                      · refine j_iconst X (1 : Int32) dL_isMovedSo_213 (by rfl) ?_
                        refine j_goto X 218 dL_isMovedSo_214 (by decide) ?_
                        exact j_zret X dL_isMovedSo_218 ⟨_, rfl, hKX3⟩ (fun _ h => h)
                      · refine j_lv [] rfl ?_
                        exact hk17 S21
                    · refine j_lv [] rfl ?_
                      refine j_bud (bc1 := 6) (bs1 := 36) (by decide) (by decide) ?_
                      exact hk17 S19
        · refine j_iload_n X 3 rfl dL_isMovedSo_132 rfl ?_
          refine j_lload X 4 rfl dL_isMovedSo_133 ?_
          refine j_bipush X (16 : Int32) dL_isMovedSo_135 (by rfl) ?_
          refine j_iload X 7 rfl dL_isMovedSo_137 ?_
          refine j_imul X dL_isMovedSo_139 ?_
          refine j_lshr X dL_isMovedSo_140 ?_
          refine j_ldc2 X kl_L_165 dL_isMovedSo_141 ?_
          refine j_land X dL_isMovedSo_144 ?_
          refine j_lload X 5 rfl dL_isMovedSo_145 ?_
          refine j_bipush X (16 : Int32) dL_isMovedSo_147 (by rfl) ?_
          refine j_iload X 7 rfl dL_isMovedSo_149 ?_
          refine j_imul X dL_isMovedSo_151 ?_
          refine j_lshr X dL_isMovedSo_152 ?_
          refine j_ldc2 X kl_L_165 dL_isMovedSo_153 ?_
          refine j_land X dL_isMovedSo_156 ?_
          refine j_lcmp X dL_isMovedSo_157 ?_
          refine j_join (fun k27 => ∀ (x28 : Int32), J κ 10 rm_L_isMovedSo (jQf κ rm_L_isMovedSo rvI (fun (S9 : jSL) M9 => ∃ X1, M9 = memG 0 358 (kD κ) (kB κ) S9.1 X1 ∧ LogK (kD κ) (kB κ) (kT κ) X9 S9.2 X1) (zD (kD κ))) (k27 x28) (memG 0 358 (kD κ) (kB κ) S11 X3) (zD (kD κ)) (0 * n9 + 10) (0 * n9 + 60) [(0, .ref (kB κ + 0)), (1, .int p1), (2, .int v1), (4, .long x6), (6, .long x12), (8, .int v8), (9, .int x16)] 166 [.int x28, .int x15]) ?_ (fun k27 hk27 => ?_)
          · intro x28
            refine j_iadd X dL_isMovedSo_166 ?_
            refine j_letE (fun x29 => ?_)
            refine j_istore_n X [(3, .int x29), (0, .ref (kB κ + 0)), (1, .int p1), (2, .int v1), (4, .long x6), (6, .long x12), (8, .int v8), (9, .int x16)] dL_isMovedSo_167 rfl (by decide) rfl ?_
            refine j_iincL X 7 (fun x30 => [(9, .int x30), (3, .int x29), (0, .ref (kB κ + 0)), (1, .int p1), (2, .int v1), (4, .long x6), (6, .long x12), (8, .int v8)]) dL_isMovedSo_168 rfl (by rfl) (by decide) (fun _ => rfl) (fun x30 => ?_)
            refine j_goto X 126 dL_isMovedSo_171 (by decide) ?_
            refine j_lv [2, 3, 4, 1, 5, 6, 7, 0] rfl ?_
            exact hrec14 x29 x30
          · refine j_if_ne X 165 dL_isMovedSo_158 (by decide) ?_ ?_
            · refine j_iconst X (0 : Int32) dL_isMovedSo_161 (by rfl) ?_
              refine j_goto X 166 dL_isMovedSo_162 (by decide) ?_
              refine j_lv [0, 1, 2, 4, 5, 6, 7] rfl ?_
              exact hk27 (0 : Int32)
            · refine j_iconst X (1 : Int32) dL_isMovedSo_165 (by rfl) ?_
              refine j_lv [0, 1, 2, 4, 5, 6, 7] rfl ?_
              exact hk27 (1 : Int32)
      · refine j_lload X 5 rfl dL_isMovedSo_92 ?_
        refine j_aload_n X 0 rfl dL_isMovedSo_94 rfl ?_
        refine j_iload X 7 rfl dL_isMovedSo_95 ?_
        refine j_bipush X (8 : Int32) dL_isMovedSo_97 (by rfl) ?_
        refine j_idiv X (by decide) dL_isMovedSo_99 ?_
        refine j_iload X 7 rfl dL_isMovedSo_100 ?_
        refine j_bipush X (8 : Int32) dL_isMovedSo_102 (by rfl) ?_
        refine j_irem X (by decide) dL_isMovedSo_104 ?_
        refine j_call0V X (2 * n9 + 8) (12 * n9 + 48) (c_X10_view X.tr S11 X3 (zD (kD κ)) ((x13 / (8 : Int32))) ((x13 - x13 / (8 : Int32) * (8 : Int32)))) me_X10_view ml_L_137 iv_X10_view cf_X10 dL_isMovedSo_105 (memG_at kf_0) (rest := [.long x12]) rfl rfl (by decide) ⟨by show 2 + _ ≤ _; omega, by show 12 + _ ≤ _; omega⟩ (Nat.le_of_ble_eq_true rfl) (fun v31 S32 M36 hM35 => ?_)
        subst M36
        refine j_st (st1 := [.int v31, .long x12]) rfl ?_
        refine j_i2l X dL_isMovedSo_108 ?_
        refine j_iconst X (2 : Int32) dL_isMovedSo_109 (by rfl) ?_
        refine j_iload X 7 rfl dL_isMovedSo_110 ?_
        refine j_imul X dL_isMovedSo_112 ?_
        refine j_lshl X dL_isMovedSo_113 ?_
        refine j_lor X dL_isMovedSo_114 ?_
        refine j_letEL (fun x33 => ?_)
        refine j_lstore X [(6, .long x33), (0, .ref (kB κ + 0)), (1, .int p1), (2, .int v1), (3, .int (0 : Int32)), (4, .long x6), (8, .int v8), (9, .int x13)] dL_isMovedSo_115 (by decide) rfl ?_
        refine j_iincL X 7 (fun x34 => [(9, .int x34), (6, .long x33), (0, .ref (kB κ + 0)), (1, .int p1), (2, .int v1), (3, .int (0 : Int32)), (4, .long x6), (8, .int v8)]) dL_isMovedSo_117 rfl (by rfl) (by decide) (fun _ => rfl) (fun x34 => ?_)
        refine j_goto X 85 dL_isMovedSo_120 (by decide) ?_
        refine j_lv [2, 3, 4, 5, 6, 1, 7, 0] rfl ?_
        exact hrec10 S32 x33 x34
    · refine j_lload X 4 rfl dL_isMovedSo_44 ?_
      refine j_aload_n X 0 rfl dL_isMovedSo_46 rfl ?_
      refine j_iload X 6 rfl dL_isMovedSo_47 ?_
      refine j_bipush X (8 : Int32) dL_isMovedSo_49 (by rfl) ?_
      refine j_idiv X (by decide) dL_isMovedSo_51 ?_
      refine j_iload X 6 rfl dL_isMovedSo_52 ?_
      refine j_bipush X (8 : Int32) dL_isMovedSo_54 (by rfl) ?_
      refine j_irem X (by decide) dL_isMovedSo_56 ?_
      refine j_call0V X (2 * n9 + 88) (12 * n9 + 528) (c_X10_view X.tr S5 X3 (zD (kD κ)) ((x7 / (8 : Int32))) ((x7 - x7 / (8 : Int32) * (8 : Int32)))) me_X10_view ml_L_137 iv_X10_view cf_X10 dL_isMovedSo_57 (memG_at kf_0) (rest := [.long x6]) rfl rfl (by decide) ⟨by show 2 + _ ≤ _; omega, by show 12 + _ ≤ _; omega⟩ (Nat.le_of_ble_eq_true rfl) (fun v39 S40 M44 hM43 => ?_)
      subst M44
      refine j_st (st1 := [.int v39, .long x6]) rfl ?_
      refine j_i2l X dL_isMovedSo_60 ?_
      refine j_iconst X (2 : Int32) dL_isMovedSo_61 (by rfl) ?_
      refine j_iload X 6 rfl dL_isMovedSo_62 ?_
      refine j_imul X dL_isMovedSo_64 ?_
      refine j_lshl X dL_isMovedSo_65 ?_
      refine j_lor X dL_isMovedSo_66 ?_
      refine j_letEL (fun x41 => ?_)
      refine j_lstore X [(4, .long x41), (0, .ref (kB κ + 0)), (1, .int p1), (2, .int v1), (3, .int (0 : Int32)), (6, .long (0 : Int64)), (8, .int x7)] dL_isMovedSo_67 (by decide) rfl ?_
      refine j_iincL X 6 (fun x42 => [(8, .int x42), (4, .long x41), (0, .ref (kB κ + 0)), (1, .int p1), (2, .int v1), (3, .int (0 : Int32)), (6, .long (0 : Int64))]) dL_isMovedSo_69 rfl (by rfl) (by decide) (fun _ => rfl) (fun x42 => ?_)
      refine j_goto X 37 dL_isMovedSo_72 (by decide) ?_
      refine j_lv [2, 3, 4, 5, 1, 6, 0] rfl ?_
      exact hrec4 S40 x41 x42
  · refine j_aload_n X 1 rfl dL_isMovedSo_10 rfl ?_
    refine j_iload_n X 2 rfl dL_isMovedSo_11 rfl ?_
    refine j_call0SH X 166 996 (c_L_set X.tr S2.1 X3 S2.2 hKX3.1 p1) mh_L_set ml_L_99 st_L_set dL_isMovedSo_12 (rest := []) rfl rfl (by decide) (by decide) (Nat.le_of_ble_eq_true rfl) (fun v45 S46 M49 hM48 => ?_)
    obtain ⟨X47, rfl, hKX471⟩ := hM48
    have hKX47 := (hKX3).trans hKX471
    refine j_st (st1 := [.int v45]) rfl ?_
    refine j_ldc X kc_L_16 dL_isMovedSo_15 ?_
    refine j_icmp_ne X 24 dL_isMovedSo_17 (by decide) ?_ ?_
    · refine j_iconst X (1 : Int32) dL_isMovedSo_20 (by rfl) ?_
      refine j_goto X 25 dL_isMovedSo_21 (by decide) ?_
      exact j_zret X dL_isMovedSo_25 ⟨_, rfl, hKX47⟩ (fun _ h => h)
    · refine j_iconst X (0 : Int32) dL_isMovedSo_24 (by rfl) ?_
      exact j_zret X dL_isMovedSo_25 ⟨_, rfl, hKX47⟩ (fun _ h => h)
end GEN
