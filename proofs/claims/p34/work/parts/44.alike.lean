section GEN
def f_L_areAlike (S T : jS) (L L2 : jLg) (p2 : Int32) : Option (jR (jS × jS)) := jbin0 (f_X10_entries S L) (fun v1 _ => jbin0 (f_X10_entries T L2) (fun v2 _ => joinK (fun (x4 : Int32) => loopK (fun (rec5 : jS → jS → Int32 → Int32 → Option (jR (jS × jS))) (S6 : jS) (T7 : jS) (x8 : Int32) (x9 : Int32) => joinK (fun (_ : Unit) => loopK (fun (rec51 : jS → jS → Int32 → Int32 → Option (jR (jS × jS))) (S52 : jS) (T53 : jS) (x54 : Int32) (x55 : Int32) => joinK (fun (_ : Unit) => chk (isb x54) (some (0, x54, (S52, T53)))) (fun k56 => (if (6 : Int32) ≤ x55 then k56 () else (if x54 = (0 : Int32) then k56 () else jbin0 (f_L_low ((p2 >>> (((2 : Int32) * x55) &&& 31))) (20 : Int32)) (fun v57 _ => jbin0 (f_X10_fault S52 x55) (fun v58 S59 => jbin0 (f_X10_fault T53 x55) (fun v60 S61 => joinK (fun (x88 : Int32) => letE (x55 + (1 : Int32)) fun x89 => rec51 S59 S61 x88 x89) (fun k62 => joinK (fun (_ : Unit) => k62 (0 : Int32)) (fun k63 => (if v58 = v60 then jbin0 (f_X10_isIn S59 x55 v57) (fun v64 _ => jbin0 (f_X10_isIn S61 x55 v57) (fun v65 _ => (if v64 = v65 then jbin0 (f_X10_kept S59 x55 v57) (fun v66 _ => jbin0 (f_X10_kept S61 x55 v57) (fun v67 _ => (if v66 = v67 then jbin0 (f_X10_arm S59 x55 v57) (fun v68 _ => jbin0 (f_X10_arm S61 x55 v57) (fun v69 _ => (if v68 = v69 then k62 (1 : Int32) else k63 ()))) else k63 ()))) else k63 ()))) else k63 ())))))))))) (fun _ _ _ _ => none) 40 S6 T7 x8 (0 : Int32)) (fun k10 => (if (8 : Int32) ≤ x9 then k10 () else (if x8 = (0 : Int32) then k10 () else jbin0 (f_X10_rules S6 x9) (fun v11 _ => jbin0 (f_X10_rules T7 x9) (fun v12 _ => joinK (fun (S41 : jS) (T42 : jS) (x43 : Int32) => letE (x9 + (1 : Int32)) fun x44 => rec5 S41 T42 x43 x44) (fun k13 => joinK (fun (S39 : jS) (T40 : jS) => k13 S39 T40 (0 : Int32)) (fun k14 => (if v11 = v12 then jbin0 (f_X10_view S6 x9 x9) (fun v15 S16 => jbin0 (f_X10_view T7 x9 x9) (fun v17 S18 => (if v15 = v17 then jbin0 (f_X10_isHeld S16 x9 x9) (fun v19 _ => jbin0 (f_X10_isHeld S18 x9 x9) (fun v20 _ => (if v19 = v20 then jbin0 (f_X10_shownLast S16 x9 x9) (fun v21 _ => jbin0 (f_X10_shownLast S18 x9 x9) (fun v22 _ => (if v21 = v22 then k13 S16 S18 (1 : Int32) else k14 S16 S18))) else k14 S16 S18))) else k14 S16 S18))) else k14 S6 T7))))))))) (fun _ _ _ _ => none) 40 S T x4 (0 : Int32)) (fun k3 => (if v1 = v2 then k3 (1 : Int32) else k3 (0 : Int32)))))
abbrev rm_L_areAlike : Room := { frames := 9, cells := 1120, slots := 6720, locals := 169 }
set_option maxHeartbeats 4000000 in
set_option maxRecDepth 100000 in
theorem c_L_areAlike {l : Launch} {D : va_G} {B t0 : Nat} (hl9 : l.stackTraces = false) (S T : jS) (X9 : jMem) (L L2 : jLg) (hL : LogX D B t0 L X9) (hL2 : LogX D (B + 358) t0 L2 X9) (p2 : Int32) : jCf l D B t0 yL_areAlike cL_areAlike 6 (some .boolean) rm_L_areAlike [.ref (B + 0), .ref (B + 358 + 0), .int p2] (memG 0 358 D B S (memG 0 358 D (B + 358) T X9)) (zD D) (f_L_areAlike S T L L2 p2) rvI (fun (S9 : jS × jS) M9 => M9 = memG 0 358 D B S9.1 (memG 0 358 D (B + 358) S9.2 X9)) (zD D) := by
  refine jC_of hl9 (me_L_areAlike).1 [(0, .ref (B + 0)), (1, .ref (B + 358 + 0)), (2, .int p2)] ⟨by decide +kernel, Nat.le_of_ble_eq_true rfl⟩ rfl (fun κ hl hD hB hT X htab hin => ?_)
  subst hl hD hB hT
  have X : jX κ RL cL_areAlike 6 (some .boolean) := X
  unfold f_L_areAlike
  refine j_aload_n X 0 rfl dL_areAlike_0 rfl ?_
  refine j_call0V X 1120 6720 (c_X10_entries X.tr S (memG 0 358 (kD κ) (kB κ + 358) T X9) (zD (kD κ)) L ((hL.over (Nat.le_trans (Nat.le_refl _) hL2.1) (Or.inl (by omega))))) me_X10_entries ml_L_130 iv_X10_entries cf_X10 dL_areAlike_1 (memG_at kf_0) (rest := []) rfl rfl (by decide) (by decide) (Nat.le_of_ble_eq_true rfl) (fun v1 u102 M101 hM100 => ?_)
  subst M101
  refine j_st (st1 := [.int v1]) rfl ?_
  refine j_aload_n X 1 rfl dL_areAlike_4 rfl ?_
  refine j_eqM swapM ?_
  refine j_call0V X 1120 6720 ((c_X10_entries (B := kB κ + 358) X.tr T (memG 0 358 (kD κ) (kB κ) S X9) (zD (kD κ)) L2 ((hL2.over hL.1 (Or.inr (by omega))))).lift (Nat.le_add_right _ _) (fun n hn => Nat.le_trans (Nat.le_trans (Nat.le_add_right _ _) hL2.1) hn)) me_X10_entries ml_L_130 iv_X10_entries cf_X10 dL_areAlike_5 (memG_at kf_0) (rest := [.int v1]) rfl rfl (by decide) (by decide) (Nat.le_of_ble_eq_true rfl) (fun v2 u99 M98 hM97 => ?_)
  subst M98
  refine j_eqM swapM.symm ?_
  refine j_st (st1 := [.int v2, .int v1]) rfl ?_
  refine j_join (fun k3 => ∀ (x4 : Int32), J κ 6 rm_L_areAlike (jQf κ rm_L_areAlike rvI (fun (S9 : jS × jS) M9 => M9 = memG 0 358 (kD κ) (kB κ) S9.1 (memG 0 358 (kD κ) (kB κ + 358) S9.2 X9)) (zD (kD κ))) (k3 x4) (memG 0 358 (kD κ) (kB κ) S (memG 0 358 (kD κ) (kB κ + 358) T X9)) (zD (kD κ)) 1120 6720 [(0, .ref (kB κ + 0)), (1, .ref (kB κ + 358 + 0)), (2, .int p2)] 16 [.int x4]) ?_ (fun k3 hk3 => ?_)
  · intro x4
    refine j_istore_n X [(3, .int x4), (0, .ref (kB κ + 0)), (1, .ref (kB κ + 358 + 0)), (2, .int p2)] dL_areAlike_16 rfl (by decide) rfl ?_
    refine j_iconst X (0 : Int32) dL_areAlike_17 (by rfl) ?_
    refine j_istore X [(4, .int (0 : Int32)), (3, .int x4), (0, .ref (kB κ + 0)), (1, .ref (kB κ + 358 + 0)), (2, .int p2)] dL_areAlike_18 (by decide) rfl ?_
    refine j_bud (bc1 := 14 * 40 + 560) (bs1 := 84 * 40 + 3360) (by decide) (by decide) ?_
    refine j_lv [2, 3, 4, 1, 0] rfl ?_
    refine j_loopB (fun (n9 : Nat) (k : jS → jS → Int32 → Int32 → Option (jR (jS × jS))) => ∀ (S6 : jS) (T7 : jS) (x8 : Int32) (x9 : Int32), J κ 6 rm_L_areAlike (jQf κ rm_L_areAlike rvI (fun (S9 : jS × jS) M9 => M9 = memG 0 358 (kD κ) (kB κ) S9.1 (memG 0 358 (kD κ) (kB κ + 358) S9.2 X9)) (zD (kD κ))) (k S6 T7 x8 x9) (memG 0 358 (kD κ) (kB κ) S6 (memG 0 358 (kD κ) (kB κ + 358) T7 X9)) (zD (kD κ)) (14 * n9 + 560) (84 * n9 + 3360) [(0, .ref (kB κ + 0)), (1, .ref (kB κ + 358 + 0)), (2, .int p2), (3, .int x8), (4, .int x9)] 20 []) (fun _ _ _ _ _ => j_none) (fun n9 rec5 hrec5 => ?_) 40 _ _ _ _
    intro S6 T7 x8 x9
    refine j_bud (bc1 := (14 * n9 + 574)) (bs1 := (84 * n9 + 3444)) (by omega) (by omega) ?_
    refine j_iload X 4 rfl dL_areAlike_20 ?_
    refine j_bipush X (8 : Int32) dL_areAlike_22 (by rfl) ?_
    refine j_join (fun k10 => ∀ (_ : Unit), J κ 6 rm_L_areAlike (jQf κ rm_L_areAlike rvI (fun (S9 : jS × jS) M9 => M9 = memG 0 358 (kD κ) (kB κ) S9.1 (memG 0 358 (kD κ) (kB κ + 358) S9.2 X9)) (zD (kD κ))) (k10 ()) (memG 0 358 (kD κ) (kB κ) S6 (memG 0 358 (kD κ) (kB κ + 358) T7 X9)) (zD (kD κ)) 574 3444 [(0, .ref (kB κ + 0)), (1, .ref (kB κ + 358 + 0)), (2, .int p2), (3, .int x8)] 115 []) ?_ (fun k10 hk10 => ?_)
    · intro _
      refine j_iconst X (0 : Int32) dL_areAlike_115 (by rfl) ?_
      refine j_istore X [(4, .int (0 : Int32)), (0, .ref (kB κ + 0)), (1, .ref (kB κ + 358 + 0)), (2, .int p2), (3, .int x8)] dL_areAlike_116 (by decide) rfl ?_
      refine j_bud (bc1 := 14 * 40 + 14) (bs1 := 84 * 40 + 84) (by decide) (by decide) ?_
      refine j_lv [1, 2, 3, 4, 0] rfl ?_
      refine j_loopB (fun (n9 : Nat) (k : jS → jS → Int32 → Int32 → Option (jR (jS × jS))) => ∀ (S52 : jS) (T53 : jS) (x54 : Int32) (x55 : Int32), J κ 6 rm_L_areAlike (jQf κ rm_L_areAlike rvI (fun (S9 : jS × jS) M9 => M9 = memG 0 358 (kD κ) (kB κ) S9.1 (memG 0 358 (kD κ) (kB κ + 358) S9.2 X9)) (zD (kD κ))) (k S52 T53 x54 x55) (memG 0 358 (kD κ) (kB κ) S52 (memG 0 358 (kD κ) (kB κ + 358) T53 X9)) (zD (kD κ)) (14 * n9 + 14) (84 * n9 + 84) [(0, .ref (kB κ + 0)), (1, .ref (kB κ + 358 + 0)), (2, .int p2), (3, .int x54), (4, .int x55)] 118 []) (fun _ _ _ _ _ => j_none) (fun n9 rec51 hrec51 => ?_) 40 _ _ _ _
      intro S52 T53 x54 x55
      refine j_bud (bc1 := (14 * n9 + 28)) (bs1 := (84 * n9 + 168)) (by omega) (by omega) ?_
      refine j_iload X 4 rfl dL_areAlike_118 ?_
      refine j_bipush X (6 : Int32) dL_areAlike_120 (by rfl) ?_
      refine j_join (fun k56 => ∀ (_ : Unit), J κ 6 rm_L_areAlike (jQf κ rm_L_areAlike rvI (fun (S9 : jS × jS) M9 => M9 = memG 0 358 (kD κ) (kB κ) S9.1 (memG 0 358 (kD κ) (kB κ + 358) S9.2 X9)) (zD (kD κ))) (k56 ()) (memG 0 358 (kD κ) (kB κ) S52 (memG 0 358 (kD κ) (kB κ + 358) T53 X9)) (zD (kD κ)) 28 168 [(3, .int x54)] 226 []) ?_ (fun k56 hk56 => ?_)
      · intro _
        refine j_iload_n X 0 rfl dL_areAlike_226 rfl ?_
        exact j_zret X dL_areAlike_227 rfl (fun _ h => h)
      · refine j_icmp_ge X 226 dL_areAlike_122 (by decide) ?_ ?_
        · refine j_bud (bc1 := 28) (bs1 := 168) (by omega) (by omega) ?_
          refine j_lv [3] rfl ?_
          exact hk56 ()
        · refine j_iload_n X 3 rfl dL_areAlike_125 rfl ?_
          refine j_if_eq X 226 dL_areAlike_126 (by decide) ?_ ?_
          · refine j_bud (bc1 := 28) (bs1 := 168) (by omega) (by omega) ?_
            refine j_lv [3] rfl ?_
            exact hk56 ()
          · refine j_iload_n X 2 rfl dL_areAlike_129 rfl ?_
            refine j_iconst X (2 : Int32) dL_areAlike_130 (by rfl) ?_
            refine j_iload X 4 rfl dL_areAlike_131 ?_
            refine j_imul X dL_areAlike_133 ?_
            refine j_ishr X dL_areAlike_134 ?_
            refine j_bipush X (20 : Int32) dL_areAlike_135 (by rfl) ?_
            refine j_call0S X (14 * n9 + 28) (84 * n9 + 168) (c_L_low X.tr (memG 0 358 (kD κ) (kB κ) S52 (memG 0 358 (kD κ) (kB κ + 358) T53 X9)) (zD (kD κ)) ((p2 >>> (((2 : Int32) * x55) &&& 31))) (20 : Int32)) me_L_low ml_L_80 st_L_low dL_areAlike_137 (rest := []) rfl rfl (by decide) ⟨by show 0 + _ ≤ _; omega, by show 0 + _ ≤ _; omega⟩ (Nat.le_of_ble_eq_true rfl) (fun v57 u96 M95 hM94 => ?_)
            subst M95
            refine j_st (st1 := [.int v57]) rfl ?_
            refine j_istore X [(5, .int v57), (0, .ref (kB κ + 0)), (1, .ref (kB κ + 358 + 0)), (2, .int p2), (3, .int x54), (4, .int x55)] dL_areAlike_140 (by decide) rfl ?_
            refine j_aload_n X 1 rfl dL_areAlike_142 rfl ?_
            refine j_iload X 5 rfl dL_areAlike_143 ?_
            refine j_call0V X (14 * n9 + 27) (84 * n9 + 162) (c_X10_fault X.tr S52 (memG 0 358 (kD κ) (kB κ + 358) T53 X9) (zD (kD κ)) x55) me_X10_fault ml_L_77 iv_X10_fault cf_X10 dL_areAlike_145 (memG_at kf_0) (rest := []) rfl rfl (by decide) ⟨by show 1 + _ ≤ _; omega, by show 6 + _ ≤ _; omega⟩ (Nat.le_of_ble_eq_true rfl) (fun v58 S59 M93 hM92 => ?_)
            subst M93
            refine j_st (st1 := [.int v58]) rfl ?_
            refine j_aload_n X 2 rfl dL_areAlike_148 rfl ?_
            refine j_iload X 5 rfl dL_areAlike_149 ?_
            refine j_eqM swapM ?_
            refine j_call0V X (14 * n9 + 26) (84 * n9 + 156) ((c_X10_fault (B := kB κ + 358) X.tr T53 (memG 0 358 (kD κ) (kB κ) S59 X9) (zD (kD κ)) x55).lift (Nat.le_add_right _ _) (fun n hn => Nat.le_trans (Nat.le_trans (Nat.le_add_right _ _) hL2.1) hn)) me_X10_fault ml_L_77 iv_X10_fault cf_X10 dL_areAlike_151 (memG_at kf_0) (rest := [.int v58]) rfl rfl (by decide) ⟨by show 1 + _ ≤ _; omega, by show 6 + _ ≤ _; omega⟩ (Nat.le_of_ble_eq_true rfl) (fun v60 S61 M91 hM90 => ?_)
            subst M91
            refine j_eqM swapM.symm ?_
            refine j_st (st1 := [.int v60, .int v58]) rfl ?_
            refine j_join (fun k62 => ∀ (x88 : Int32), J κ 6 rm_L_areAlike (jQf κ rm_L_areAlike rvI (fun (S9 : jS × jS) M9 => M9 = memG 0 358 (kD κ) (kB κ) S9.1 (memG 0 358 (kD κ) (kB κ + 358) S9.2 X9)) (zD (kD κ))) (k62 x88) (memG 0 358 (kD κ) (kB κ) S59 (memG 0 358 (kD κ) (kB κ + 358) S61 X9)) (zD (kD κ)) (14 * n9 + 14) (84 * n9 + 84) [(0, .ref (kB κ + 0)), (1, .ref (kB κ + 358 + 0)), (2, .int p2), (4, .int x55)] 219 [.int x88]) ?_ (fun k62 hk62 => ?_)
            · intro x88
              refine j_istore_n X [(3, .int x88), (0, .ref (kB κ + 0)), (1, .ref (kB κ + 358 + 0)), (2, .int p2), (4, .int x55)] dL_areAlike_219 rfl (by decide) rfl ?_
              refine j_iincL X 4 (fun x89 => [(4, .int x89), (3, .int x88), (0, .ref (kB κ + 0)), (1, .ref (kB κ + 358 + 0)), (2, .int p2)]) dL_areAlike_220 rfl (by rfl) (by decide) (fun _ => rfl) (fun x89 => ?_)
              refine j_goto X 118 dL_areAlike_223 (by decide) ?_
              refine j_lv [2, 3, 4, 1, 0] rfl ?_
              exact hrec51 S59 S61 x88 x89
            · refine j_join (fun k63 => ∀ (_ : Unit), J κ 6 rm_L_areAlike (jQf κ rm_L_areAlike rvI (fun (S9 : jS × jS) M9 => M9 = memG 0 358 (kD κ) (kB κ) S9.1 (memG 0 358 (kD κ) (kB κ + 358) S9.2 X9)) (zD (kD κ))) (k63 ()) (memG 0 358 (kD κ) (kB κ) S59 (memG 0 358 (kD κ) (kB κ + 358) S61 X9)) (zD (kD κ)) (14 * n9 + 14) (84 * n9 + 84) [(0, .ref (kB κ + 0)), (1, .ref (kB κ + 358 + 0)), (2, .int p2), (4, .int x55)] 218 []) ?_ (fun k63 hk63 => ?_)
              · intro _
                refine j_iconst X (0 : Int32) dL_areAlike_218 (by rfl) ?_
                exact hk62 (0 : Int32)
              · refine j_icmp_ne X 218 dL_areAlike_154 (by decide) ?_ ?_
                · refine j_aload_n X 1 rfl dL_areAlike_157 rfl ?_
                  refine j_iload X 5 rfl dL_areAlike_158 ?_
                  refine j_iload X 0 rfl dL_areAlike_160 ?_
                  refine j_call0V X (14 * n9 + 24) (84 * n9 + 144) (c_X10_isIn X.tr S59 (memG 0 358 (kD κ) (kB κ + 358) S61 X9) (zD (kD κ)) x55 v57) me_X10_isIn ml_L_147 iv_X10_isIn cf_X10 dL_areAlike_162 (memG_at kf_0) (rest := []) rfl rfl (by decide) ⟨by show 2 + _ ≤ _; omega, by show 12 + _ ≤ _; omega⟩ (Nat.le_of_ble_eq_true rfl) (fun v64 u87 M86 hM85 => ?_)
                  subst M86
                  refine j_st (st1 := [.int v64]) rfl ?_
                  refine j_aload_n X 2 rfl dL_areAlike_165 rfl ?_
                  refine j_iload X 5 rfl dL_areAlike_166 ?_
                  refine j_iload X 0 rfl dL_areAlike_168 ?_
                  refine j_eqM swapM ?_
                  refine j_call0V X (14 * n9 + 22) (84 * n9 + 132) ((c_X10_isIn (B := kB κ + 358) X.tr S61 (memG 0 358 (kD κ) (kB κ) S59 X9) (zD (kD κ)) x55 v57).lift (Nat.le_add_right _ _) (fun n hn => Nat.le_trans (Nat.le_trans (Nat.le_add_right _ _) hL2.1) hn)) me_X10_isIn ml_L_147 iv_X10_isIn cf_X10 dL_areAlike_170 (memG_at kf_0) (rest := [.int v64]) rfl rfl (by decide) ⟨by show 2 + _ ≤ _; omega, by show 12 + _ ≤ _; omega⟩ (Nat.le_of_ble_eq_true rfl) (fun v65 u84 M83 hM82 => ?_)
                  subst M83
                  refine j_eqM swapM.symm ?_
                  refine j_st (st1 := [.int v65, .int v64]) rfl ?_
                  refine j_icmp_ne X 218 dL_areAlike_173 (by decide) ?_ ?_
                  · refine j_aload_n X 1 rfl dL_areAlike_176 rfl ?_
                    refine j_iload X 5 rfl dL_areAlike_177 ?_
                    refine j_iload X 0 rfl dL_areAlike_179 ?_
                    refine j_call0V X (14 * n9 + 20) (84 * n9 + 120) (c_X10_kept X.tr S59 (memG 0 358 (kD κ) (kB κ + 358) S61 X9) (zD (kD κ)) x55 v57) me_X10_kept ml_L_150 iv_X10_kept cf_X10 dL_areAlike_181 (memG_at kf_0) (rest := []) rfl rfl (by decide) ⟨by show 2 + _ ≤ _; omega, by show 12 + _ ≤ _; omega⟩ (Nat.le_of_ble_eq_true rfl) (fun v66 u81 M80 hM79 => ?_)
                    subst M80
                    refine j_st (st1 := [.int v66]) rfl ?_
                    refine j_aload_n X 2 rfl dL_areAlike_184 rfl ?_
                    refine j_iload X 5 rfl dL_areAlike_185 ?_
                    refine j_iload X 0 rfl dL_areAlike_187 ?_
                    refine j_eqM swapM ?_
                    refine j_call0V X (14 * n9 + 18) (84 * n9 + 108) ((c_X10_kept (B := kB κ + 358) X.tr S61 (memG 0 358 (kD κ) (kB κ) S59 X9) (zD (kD κ)) x55 v57).lift (Nat.le_add_right _ _) (fun n hn => Nat.le_trans (Nat.le_trans (Nat.le_add_right _ _) hL2.1) hn)) me_X10_kept ml_L_150 iv_X10_kept cf_X10 dL_areAlike_189 (memG_at kf_0) (rest := [.int v66]) rfl rfl (by decide) ⟨by show 2 + _ ≤ _; omega, by show 12 + _ ≤ _; omega⟩ (Nat.le_of_ble_eq_true rfl) (fun v67 u78 M77 hM76 => ?_)
                    subst M77
                    refine j_eqM swapM.symm ?_
                    refine j_st (st1 := [.int v67, .int v66]) rfl ?_
                    refine j_icmp_ne X 218 dL_areAlike_192 (by decide) ?_ ?_
                    · refine j_aload_n X 1 rfl dL_areAlike_195 rfl ?_
                      refine j_iload X 5 rfl dL_areAlike_196 ?_
                      refine j_iload X 0 rfl dL_areAlike_198 ?_
                      refine j_call0V X (14 * n9 + 16) (84 * n9 + 96) (c_X10_arm X.tr S59 (memG 0 358 (kD κ) (kB κ + 358) S61 X9) (zD (kD κ)) x55 v57) me_X10_arm ml_L_153 iv_X10_arm cf_X10 dL_areAlike_200 (memG_at kf_0) (rest := []) rfl rfl (by decide) ⟨by show 2 + _ ≤ _; omega, by show 12 + _ ≤ _; omega⟩ (Nat.le_of_ble_eq_true rfl) (fun v68 u75 M74 hM73 => ?_)
                      subst M74
                      refine j_st (st1 := [.int v68]) rfl ?_
                      refine j_aload_n X 2 rfl dL_areAlike_203 rfl ?_
                      refine j_iload X 5 rfl dL_areAlike_204 ?_
                      refine j_iload X 0 rfl dL_areAlike_206 ?_
                      refine j_eqM swapM ?_
                      refine j_call0V X (14 * n9 + 14) (84 * n9 + 84) ((c_X10_arm (B := kB κ + 358) X.tr S61 (memG 0 358 (kD κ) (kB κ) S59 X9) (zD (kD κ)) x55 v57).lift (Nat.le_add_right _ _) (fun n hn => Nat.le_trans (Nat.le_trans (Nat.le_add_right _ _) hL2.1) hn)) me_X10_arm ml_L_153 iv_X10_arm cf_X10 dL_areAlike_208 (memG_at kf_0) (rest := [.int v68]) rfl rfl (by decide) ⟨by show 2 + _ ≤ _; omega, by show 12 + _ ≤ _; omega⟩ (Nat.le_of_ble_eq_true rfl) (fun v69 u72 M71 hM70 => ?_)
                      subst M71
                      refine j_eqM swapM.symm ?_
                      refine j_st (st1 := [.int v69, .int v68]) rfl ?_
                      refine j_icmp_ne X 218 dL_areAlike_211 (by decide) ?_ ?_
                      · refine j_iconst X (1 : Int32) dL_areAlike_214 (by rfl) ?_
                        refine j_goto X 219 dL_areAlike_215 (by decide) ?_
                        refine j_lv [1, 2, 3, 5] rfl ?_
                        exact hk62 (1 : Int32)
                      · refine j_lv [1, 2, 3, 5] rfl ?_
                        exact hk63 ()
                    · refine j_lv [1, 2, 3, 5] rfl ?_
                      refine j_bud (bc1 := (14 * n9 + 14)) (bs1 := (84 * n9 + 84)) (by omega) (by omega) ?_
                      exact hk63 ()
                  · refine j_lv [1, 2, 3, 5] rfl ?_
                    refine j_bud (bc1 := (14 * n9 + 14)) (bs1 := (84 * n9 + 84)) (by omega) (by omega) ?_
                    exact hk63 ()
                · refine j_lv [1, 2, 3, 5] rfl ?_
                  refine j_bud (bc1 := (14 * n9 + 14)) (bs1 := (84 * n9 + 84)) (by omega) (by omega) ?_
                  exact hk63 ()
    · refine j_icmp_ge X 115 dL_areAlike_24 (by decide) ?_ ?_
      · refine j_bud (bc1 := 574) (bs1 := 3444) (by omega) (by omega) ?_
        refine j_lv [0, 1, 2, 3] rfl ?_
        exact hk10 ()
      · refine j_iload_n X 3 rfl dL_areAlike_27 rfl ?_
        refine j_if_eq X 115 dL_areAlike_28 (by decide) ?_ ?_
        · refine j_bud (bc1 := 574) (bs1 := 3444) (by omega) (by omega) ?_
          refine j_lv [0, 1, 2, 3] rfl ?_
          exact hk10 ()
        · refine j_aload_n X 0 rfl dL_areAlike_31 rfl ?_
          refine j_iload X 4 rfl dL_areAlike_32 ?_
          refine j_call0V X (14 * n9 + 573) (84 * n9 + 3438) (c_X10_rules X.tr S6 (memG 0 358 (kD κ) (kB κ + 358) T7 X9) (zD (kD κ)) x9) me_X10_rules ml_L_134 iv_X10_rules cf_X10 dL_areAlike_34 (memG_at kf_0) (rest := []) rfl rfl (by decide) ⟨by show 1 + _ ≤ _; omega, by show 6 + _ ≤ _; omega⟩ (Nat.le_of_ble_eq_true rfl) (fun v11 u50 M49 hM48 => ?_)
          subst M49
          refine j_st (st1 := [.int v11]) rfl ?_
          refine j_aload_n X 1 rfl dL_areAlike_37 rfl ?_
          refine j_iload X 4 rfl dL_areAlike_38 ?_
          refine j_eqM swapM ?_
          refine j_call0V X (14 * n9 + 572) (84 * n9 + 3432) ((c_X10_rules (B := kB κ + 358) X.tr T7 (memG 0 358 (kD κ) (kB κ) S6 X9) (zD (kD κ)) x9).lift (Nat.le_add_right _ _) (fun n hn => Nat.le_trans (Nat.le_trans (Nat.le_add_right _ _) hL2.1) hn)) me_X10_rules ml_L_134 iv_X10_rules cf_X10 dL_areAlike_40 (memG_at kf_0) (rest := [.int v11]) rfl rfl (by decide) ⟨by show 1 + _ ≤ _; omega, by show 6 + _ ≤ _; omega⟩ (Nat.le_of_ble_eq_true rfl) (fun v12 u47 M46 hM45 => ?_)
          subst M46
          refine j_eqM swapM.symm ?_
          refine j_st (st1 := [.int v12, .int v11]) rfl ?_
          refine j_join (fun k13 => ∀ (S41 : jS) (T42 : jS) (x43 : Int32), J κ 6 rm_L_areAlike (jQf κ rm_L_areAlike rvI (fun (S9 : jS × jS) M9 => M9 = memG 0 358 (kD κ) (kB κ) S9.1 (memG 0 358 (kD κ) (kB κ + 358) S9.2 X9)) (zD (kD κ))) (k13 S41 T42 x43) (memG 0 358 (kD κ) (kB κ) S41 (memG 0 358 (kD κ) (kB κ + 358) T42 X9)) (zD (kD κ)) (14 * n9 + 560) (84 * n9 + 3360) [(0, .ref (kB κ + 0)), (1, .ref (kB κ + 358 + 0)), (2, .int p2), (4, .int x9)] 108 [.int x43]) ?_ (fun k13 hk13 => ?_)
          · intro S41 T42 x43
            refine j_istore_n X [(3, .int x43), (0, .ref (kB κ + 0)), (1, .ref (kB κ + 358 + 0)), (2, .int p2), (4, .int x9)] dL_areAlike_108 rfl (by decide) rfl ?_
            refine j_iincL X 4 (fun x44 => [(4, .int x44), (3, .int x43), (0, .ref (kB κ + 0)), (1, .ref (kB κ + 358 + 0)), (2, .int p2)]) dL_areAlike_109 rfl (by rfl) (by decide) (fun _ => rfl) (fun x44 => ?_)
            refine j_goto X 20 dL_areAlike_112 (by decide) ?_
            refine j_lv [2, 3, 4, 1, 0] rfl ?_
            exact hrec5 S41 T42 x43 x44
          · refine j_join (fun k14 => ∀ (S39 : jS) (T40 : jS), J κ 6 rm_L_areAlike (jQf κ rm_L_areAlike rvI (fun (S9 : jS × jS) M9 => M9 = memG 0 358 (kD κ) (kB κ) S9.1 (memG 0 358 (kD κ) (kB κ + 358) S9.2 X9)) (zD (kD κ))) (k14 S39 T40) (memG 0 358 (kD κ) (kB κ) S39 (memG 0 358 (kD κ) (kB κ + 358) T40 X9)) (zD (kD κ)) (14 * n9 + 560) (84 * n9 + 3360) [(0, .ref (kB κ + 0)), (1, .ref (kB κ + 358 + 0)), (2, .int p2), (4, .int x9)] 107 []) ?_ (fun k14 hk14 => ?_)
            · intro S39 T40
              refine j_iconst X (0 : Int32) dL_areAlike_107 (by rfl) ?_
              exact hk13 S39 T40 (0 : Int32)
            · refine j_icmp_ne X 107 dL_areAlike_43 (by decide) ?_ ?_
              · refine j_aload_n X 0 rfl dL_areAlike_46 rfl ?_
                refine j_iload X 4 rfl dL_areAlike_47 ?_
                refine j_iload X 4 rfl dL_areAlike_49 ?_
                refine j_call0V X (14 * n9 + 570) (84 * n9 + 3420) (c_X10_view X.tr S6 (memG 0 358 (kD κ) (kB κ + 358) T7 X9) (zD (kD κ)) x9 x9) me_X10_view ml_L_137 iv_X10_view cf_X10 dL_areAlike_51 (memG_at kf_0) (rest := []) rfl rfl (by decide) ⟨by show 2 + _ ≤ _; omega, by show 12 + _ ≤ _; omega⟩ (Nat.le_of_ble_eq_true rfl) (fun v15 S16 M38 hM37 => ?_)
                subst M38
                refine j_st (st1 := [.int v15]) rfl ?_
                refine j_aload_n X 1 rfl dL_areAlike_54 rfl ?_
                refine j_iload X 4 rfl dL_areAlike_55 ?_
                refine j_iload X 4 rfl dL_areAlike_57 ?_
                refine j_eqM swapM ?_
                refine j_call0V X (14 * n9 + 568) (84 * n9 + 3408) ((c_X10_view (B := kB κ + 358) X.tr T7 (memG 0 358 (kD κ) (kB κ) S16 X9) (zD (kD κ)) x9 x9).lift (Nat.le_add_right _ _) (fun n hn => Nat.le_trans (Nat.le_trans (Nat.le_add_right _ _) hL2.1) hn)) me_X10_view ml_L_137 iv_X10_view cf_X10 dL_areAlike_59 (memG_at kf_0) (rest := [.int v15]) rfl rfl (by decide) ⟨by show 2 + _ ≤ _; omega, by show 12 + _ ≤ _; omega⟩ (Nat.le_of_ble_eq_true rfl) (fun v17 S18 M36 hM35 => ?_)
                subst M36
                refine j_eqM swapM.symm ?_
                refine j_st (st1 := [.int v17, .int v15]) rfl ?_
                refine j_icmp_ne X 107 dL_areAlike_62 (by decide) ?_ ?_
                · refine j_aload_n X 0 rfl dL_areAlike_65 rfl ?_
                  refine j_iload X 4 rfl dL_areAlike_66 ?_
                  refine j_iload X 4 rfl dL_areAlike_68 ?_
                  refine j_call0V X (14 * n9 + 566) (84 * n9 + 3396) (c_X10_isHeld X.tr S16 (memG 0 358 (kD κ) (kB κ + 358) S18 X9) (zD (kD κ)) x9 x9) me_X10_isHeld ml_L_140 iv_X10_isHeld cf_X10 dL_areAlike_70 (memG_at kf_0) (rest := []) rfl rfl (by decide) ⟨by show 2 + _ ≤ _; omega, by show 12 + _ ≤ _; omega⟩ (Nat.le_of_ble_eq_true rfl) (fun v19 u34 M33 hM32 => ?_)
                  subst M33
                  refine j_st (st1 := [.int v19]) rfl ?_
                  refine j_aload_n X 1 rfl dL_areAlike_73 rfl ?_
                  refine j_iload X 4 rfl dL_areAlike_74 ?_
                  refine j_iload X 4 rfl dL_areAlike_76 ?_
                  refine j_eqM swapM ?_
                  refine j_call0V X (14 * n9 + 564) (84 * n9 + 3384) ((c_X10_isHeld (B := kB κ + 358) X.tr S18 (memG 0 358 (kD κ) (kB κ) S16 X9) (zD (kD κ)) x9 x9).lift (Nat.le_add_right _ _) (fun n hn => Nat.le_trans (Nat.le_trans (Nat.le_add_right _ _) hL2.1) hn)) me_X10_isHeld ml_L_140 iv_X10_isHeld cf_X10 dL_areAlike_78 (memG_at kf_0) (rest := [.int v19]) rfl rfl (by decide) ⟨by show 2 + _ ≤ _; omega, by show 12 + _ ≤ _; omega⟩ (Nat.le_of_ble_eq_true rfl) (fun v20 u31 M30 hM29 => ?_)
                  subst M30
                  refine j_eqM swapM.symm ?_
                  refine j_st (st1 := [.int v20, .int v19]) rfl ?_
                  refine j_icmp_ne X 107 dL_areAlike_81 (by decide) ?_ ?_
                  · refine j_aload_n X 0 rfl dL_areAlike_84 rfl ?_
                    refine j_iload X 4 rfl dL_areAlike_85 ?_
                    refine j_iload X 4 rfl dL_areAlike_87 ?_
                    refine j_call0V X (14 * n9 + 562) (84 * n9 + 3372) (c_X10_shownLast X.tr S16 (memG 0 358 (kD κ) (kB κ + 358) S18 X9) (zD (kD κ)) x9 x9) me_X10_shownLast ml_L_144 iv_X10_shownLast cf_X10 dL_areAlike_89 (memG_at kf_0) (rest := []) rfl rfl (by decide) ⟨by show 2 + _ ≤ _; omega, by show 12 + _ ≤ _; omega⟩ (Nat.le_of_ble_eq_true rfl) (fun v21 u28 M27 hM26 => ?_)
                    subst M27
                    refine j_st (st1 := [.int v21]) rfl ?_
                    refine j_aload_n X 1 rfl dL_areAlike_92 rfl ?_
                    refine j_iload X 4 rfl dL_areAlike_93 ?_
                    refine j_iload X 4 rfl dL_areAlike_95 ?_
                    refine j_eqM swapM ?_
                    refine j_call0V X (14 * n9 + 560) (84 * n9 + 3360) ((c_X10_shownLast (B := kB κ + 358) X.tr S18 (memG 0 358 (kD κ) (kB κ) S16 X9) (zD (kD κ)) x9 x9).lift (Nat.le_add_right _ _) (fun n hn => Nat.le_trans (Nat.le_trans (Nat.le_add_right _ _) hL2.1) hn)) me_X10_shownLast ml_L_144 iv_X10_shownLast cf_X10 dL_areAlike_97 (memG_at kf_0) (rest := [.int v21]) rfl rfl (by decide) ⟨by show 2 + _ ≤ _; omega, by show 12 + _ ≤ _; omega⟩ (Nat.le_of_ble_eq_true rfl) (fun v22 u25 M24 hM23 => ?_)
                    subst M24
                    refine j_eqM swapM.symm ?_
                    refine j_st (st1 := [.int v22, .int v21]) rfl ?_
                    refine j_icmp_ne X 107 dL_areAlike_100 (by decide) ?_ ?_
                    · refine j_iconst X (1 : Int32) dL_areAlike_103 (by rfl) ?_
                      refine j_goto X 108 dL_areAlike_104 (by decide) ?_
                      refine j_lv [0, 1, 2, 4] rfl ?_
                      exact hk13 S16 S18 (1 : Int32)
                    · refine j_lv [0, 1, 2, 4] rfl ?_
                      exact hk14 S16 S18
                  · refine j_lv [0, 1, 2, 4] rfl ?_
                    refine j_bud (bc1 := (14 * n9 + 560)) (bs1 := (84 * n9 + 3360)) (by omega) (by omega) ?_
                    exact hk14 S16 S18
                · refine j_lv [0, 1, 2, 4] rfl ?_
                  refine j_bud (bc1 := (14 * n9 + 560)) (bs1 := (84 * n9 + 3360)) (by omega) (by omega) ?_
                  exact hk14 S16 S18
              · refine j_lv [0, 1, 2, 4] rfl ?_
                refine j_bud (bc1 := (14 * n9 + 560)) (bs1 := (84 * n9 + 3360)) (by omega) (by omega) ?_
                exact hk14 S6 T7
  · refine j_icmp_ne X 15 dL_areAlike_8 (by decide) ?_ ?_
    · refine j_iconst X (1 : Int32) dL_areAlike_11 (by rfl) ?_
      refine j_goto X 16 dL_areAlike_12 (by decide) ?_
      exact hk3 (1 : Int32)
    · refine j_iconst X (0 : Int32) dL_areAlike_15 (by rfl) ?_
      exact hk3 (0 : Int32)
end GEN
