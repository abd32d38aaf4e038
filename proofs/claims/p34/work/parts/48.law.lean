section LAWW
def lawFin (S : jS) (L : jLg) : Option Int32 := jbin0 (f_L_isMovedSo S L (0 : Int32)) (fun v1 S1 => if v1 = (0 : Int32) then none else jbin0 (f_L_isMovedSo S1.1 S1.2 (1 : Int32)) (fun v2 S2 => if v2 = (0 : Int32) then none else jbin0 (f_L_isFlagSo S2.1 S2.2 (0 : Int32)) (fun v3 S3 => if v3 = (0 : Int32) then none else jbin0 (f_L_isFlagSo S3 S2.2 (1 : Int32)) (fun v4 _ => if v4 = (0 : Int32) then none else some 1))))
def lawLike (e v : Int32) (S : jS) (L : jLg) (T : jS) (L2 : jLg) (rec : jS → jLg → jS → jLg → Option Int32) : Option Int32 := jbin0 (f_L_areAlike S T L L2 v) (fun v1 ST => if v1 = (0 : Int32) then none else (if (e - e / (10 : Int32) * (10 : Int32)) = (9 : Int32) then jbin0 (f_L_low (v >>> ((3 : Int32) &&& 31)) (8 : Int32)) (fun x _ => jbin0 (f_L_isFlagSo ST.1 L x) (fun v2 S2 => if v2 = (0 : Int32) then none else jbin0 (f_L_low (v >>> ((6 : Int32) &&& 31)) (6 : Int32)) (fun x2 _ => jbin0 (f_L_isTrialSo S2 x2) (fun v3 _ => if v3 = (0 : Int32) then none else rec S2 L ST.2 L2)))) else rec ST.1 L ST.2 L2))
def lawStep (N : Nat) (xs : Nat → Int32) (e : Int32) (S : jS) (L : jLg) (T : jS) (L2 : jLg) (rec : jS → jLg → jS → jLg → Option Int32) : Option Int32 := if (100 : Int32) ≤ e then lawFin S L else jbin0 (f_L_cell N xs e) (fun v _ => jbin0 (f_L_act S L v) (fun v1 S1 => if v1 = (-99999 : Int32) then lawLike e v S1.1 S1.2 T L2 rec else jbin0 (f_L_act T L2 v) (fun v2 T1 => if v2 = v1 then lawLike e v S1.1 S1.2 T1.1 T1.2 rec else none)))
/-- the law: n turns at most, from the turn e -/
def lawF (N : Nat) (xs : Nat → Int32) : Nat → Int32 → jS → jLg → jS → jLg → Option Int32
  | 0, _, _, _, _, _ => none
  | n + 1, e, S, L, T, L2 => lawStep N xs e S L T L2 (lawF N xs n (e + (1 : Int32)))
/-- both things' memory -/
abbrev mem2 (D : va_G) (B : Nat) (S T : jS) (X : jMem) : jMem := memG 0 358 D B S (memG 0 358 D (B + 358) T X)
abbrev lvE (B b0 : Nat) (e : Int32) : List (Nat × Value) := [(0, .ref b0), (1, .ref (B + 0)), (2, .ref (B + 358)), (3, .int e)]
variable {κ : jCx} {Qf : Int32 → State → Prop} {b0 N : Nat} {xs : Nat → Int32} {S T : jS} {L L2 : jLg} {Xm : jMem} {e v v1 : Int32} {rec : jS → jLg → jS → jLg → Option Int32}
set_option maxHeartbeats 4000000 in
set_option maxRecDepth 100000 in
theorem c_like (X : jX κ RL code 6 (some .boolean)) (bc1 bs1 : Nat) (hJ : GJ (kS κ) (kD κ) (kB κ) (kT κ) b0 N xs L L2 Xm) (hrec : ∀ (S : jS) (L : jLg) (T : jS) (L2 : jLg) (Xm : jMem), GJ (kS κ) (kD κ) (kB κ) (kT κ) b0 N xs L L2 Xm → J κ 6 room_1 Qf (rec S L T L2) (mem2 (kD κ) (kB κ) S T Xm) (zD (kD κ)) bc1 bs1 (lvE (kB κ) b0 e) 113 []) :
    J κ 6 room_1 Qf (lawLike e v S L T L2 rec) (mem2 (kD κ) (kB κ) S T Xm) (zD (kD κ)) (bc1 + 1801) (bs1 + 10806) ((5, .int v1) :: (4, .int v) :: lvE (kB κ) b0 e) 57 [] := by
  have hR : ∀ R1 : Room, ∀ n : Nat, (R1.frames ≤ 12 ∧ n + R1.locals ≤ 480) → R1.frames + 1 ≤ room_1.frames ∧ 8 + (n + 11) + R1.locals ≤ room_1.locals := fun R1 n h => ⟨Nat.le_trans (Nat.succ_le_succ h.1) (Nat.le_of_ble_eq_true rfl), Nat.le_trans (m := 499) (by omega) (Nat.le_of_ble_eq_true rfl)⟩
  unfold lawLike
  refine j_aload_n X 3 rfl dL_law_57 rfl ?_
  refine j_aload_n X 4 rfl dL_law_58 rfl ?_
  refine j_iload X 1 rfl dL_law_59 ?_
  refine j_call0S X (bc1 + 681) (bs1 + 4086) (c_L_areAlike X.tr S T Xm L L2 hJ.1 hJ.2.1 v) me_L_areAlike ml_L_175 st_L_areAlike dL_law_61 (rest := []) rfl rfl (hR _ _ (by decide)) ⟨by show 1120 + _ ≤ _; omega, by show 6720 + _ ≤ _; omega⟩ (Nat.le_of_ble_eq_true rfl) (fun v2 ST M1 hM1 => ?_)
  subst hM1
  refine j_st (st1 := [.int v2]) rfl ?_
  refine j_if_ne X 69 dL_law_64 (by decide) j_none ?_
  refine j_iload_n X 5 rfl dL_law_69 rfl ?_
  refine j_bipush X (10 : Int32) dL_law_70 (by rfl) ?_
  refine j_irem X (by decide) dL_law_72 ?_
  refine j_bipush X (9 : Int32) dL_law_73 (by rfl) ?_
  refine j_icmp_ne X 113 dL_law_75 (by decide) ?_ ?_
  · refine j_aload_n X 3 rfl dL_law_78 rfl ?_
    refine j_iload X 1 rfl dL_law_79 ?_
    refine j_iconst X (3 : Int32) dL_law_81 (by rfl) ?_
    refine j_ishr X dL_law_82 ?_
    refine j_bipush X (8 : Int32) dL_law_83 (by rfl) ?_
    refine j_call0S X (bc1 + 681) (bs1 + 4086) (c_L_low X.tr _ (zD (kD κ)) _ _) me_L_low ml_L_80 st_L_low dL_law_85 (rest := [.ref (kB κ + 0)]) rfl rfl (hR _ _ (by decide)) ⟨by show 0 + _ ≤ _; omega, by show 0 + _ ≤ _; omega⟩ (Nat.le_of_ble_eq_true rfl) (fun x u M1 hM1 => ?_)
    subst hM1
    refine j_st (st1 := [.int x, .ref (kB κ + 0)]) rfl ?_
    refine j_call0S X (bc1 + 160) (bs1 + 960) (c_L_isFlagSo X.tr ST.1 _ (zD (kD κ)) L hJ.hLo x) me_L_isFlagSo ml_L_179 st_L_isFlagSo dL_law_88 (rest := []) rfl rfl (hR _ _ (by decide)) ⟨by show 521 + _ ≤ _; omega, by show 3126 + _ ≤ _; omega⟩ (Nat.le_of_ble_eq_true rfl) (fun v3 S2 M1 hM1 => ?_)
    subst hM1
    refine j_st (st1 := [.int v3]) rfl ?_
    refine j_if_eq X 111 dL_law_91 (by decide) j_none ?_
    refine j_aload_n X 3 rfl dL_law_94 rfl ?_
    refine j_iload X 1 rfl dL_law_95 ?_
    refine j_bipush X (6 : Int32) dL_law_97 (by rfl) ?_
    refine j_ishr X dL_law_99 ?_
    refine j_bipush X (6 : Int32) dL_law_100 (by rfl) ?_
    refine j_call0S X (bc1 + 160) (bs1 + 960) (c_L_low X.tr _ (zD (kD κ)) _ _) me_L_low ml_L_80 st_L_low dL_law_102 (rest := [.ref (kB κ + 0)]) rfl rfl (hR _ _ (by decide)) ⟨by show 0 + _ ≤ _; omega, by show 0 + _ ≤ _; omega⟩ (Nat.le_of_ble_eq_true rfl) (fun x2 u M1 hM1 => ?_)
    subst hM1
    refine j_st (st1 := [.int x2, .ref (kB κ + 0)]) rfl ?_
    refine j_call0S X bc1 bs1 (c_L_isTrialSo X.tr S2 _ (zD (kD κ)) x2) me_L_isTrialSo ml_L_183 st_L_isTrialSo dL_law_105 (rest := []) rfl rfl (hR _ _ (by decide)) ⟨by show 160 + _ ≤ _; omega, by show 960 + _ ≤ _; omega⟩ (Nat.le_of_ble_eq_true rfl) (fun v4 u M1 hM1 => ?_)
    subst hM1
    refine j_st (st1 := [.int v4]) rfl ?_
    refine j_if_ne X 113 dL_law_108 (by decide) j_none ?_
    refine j_lv [2, 3, 4, 5] rfl ?_
    exact hrec _ _ _ _ _ hJ
  · refine j_lv [2, 3, 4, 5] rfl ?_
    refine j_bud (bc1 := bc1) (bs1 := bs1) (by omega) (by omega) ?_
    exact hrec _ _ _ _ _ hJ
set_option maxHeartbeats 4000000 in
set_option maxRecDepth 100000 in
theorem c_step (X : jX κ RL code 6 (some .boolean)) (bc1 bs1 : Nat) (hJ : GJ (kS κ) (kD κ) (kB κ) (kT κ) b0 N xs L L2 Xm) (hend : ∀ (M : jMem) (bc bs : Nat) (lv : List (Nat × Value)), J κ 6 room_1 Qf (some 1) M (zD (kD κ)) bc bs lv 156 [.int 1])
    (hrec : ∀ (S : jS) (L : jLg) (T : jS) (L2 : jLg) (Xm : jMem), GJ (kS κ) (kD κ) (kB κ) (kT κ) b0 N xs L L2 Xm → J κ 6 room_1 Qf (rec S L T L2) (mem2 (kD κ) (kB κ) S T Xm) (zD (kD κ)) bc1 bs1 (lvE (kB κ) b0 e) 113 []) :
    J κ 6 room_1 Qf (lawStep N xs e S L T L2 rec) (mem2 (kD κ) (kB κ) S T Xm) (zD (kD κ)) (bc1 + 2000) (bs1 + 19100) (lvE (kB κ) b0 e) 18 [] := by
  have hR : ∀ R1 : Room, ∀ n : Nat, (R1.frames ≤ 12 ∧ n + R1.locals ≤ 480) → R1.frames + 1 ≤ room_1.frames ∧ 8 + (n + 11) + R1.locals ≤ room_1.locals := fun R1 n h => ⟨Nat.le_trans (Nat.succ_le_succ h.1) (Nat.le_of_ble_eq_true rfl), Nat.le_trans (m := 499) (by omega) (Nat.le_of_ble_eq_true rfl)⟩
  unfold lawStep
  refine j_iload_n X 3 rfl dL_law_18 rfl ?_
  refine j_bipush X (100 : Int32) dL_law_19 (by rfl) ?_
  refine j_icmp_ge X 119 dL_law_21 (by decide) ?_ ?_
  · unfold lawFin
    refine j_bud (bc1 := 1382) (bs1 := 8292) (by omega) (by omega) ?_
    refine j_aload_n X 1 rfl dL_law_119 rfl ?_
    refine j_iconst X (0 : Int32) dL_law_120 (by rfl) ?_
    refine j_call0S X 1212 7272 (c_L_isMovedSo X.tr S _ L hJ.hLo (0 : Int32)) me_L_isMovedSo ml_L_186 st_L_isMovedSo dL_law_121 (rest := []) rfl rfl (hR _ _ (by decide)) (by decide) (Nat.le_of_ble_eq_true rfl) (fun v1 S1 M1 hM1 => ?_)
    obtain ⟨X1, rfl, hK1⟩ := hM1
    refine j_st (st1 := [.int v1]) rfl ?_
    refine j_if_eq X 155 dL_law_124 (by decide) j_none ?_
    refine j_aload_n X 1 rfl dL_law_127 rfl ?_
    refine j_iconst X (1 : Int32) dL_law_128 (by rfl) ?_
    refine j_call0S X 1042 6252 (c_L_isMovedSo X.tr S1.1 X1 S1.2 hK1.1 (1 : Int32)) me_L_isMovedSo ml_L_186 st_L_isMovedSo dL_law_129 (rest := []) rfl rfl (hR _ _ (by decide)) (by decide) (Nat.le_of_ble_eq_true rfl) (fun v2 S2 M1 hM1 => ?_)
    obtain ⟨X2, rfl, hK2⟩ := hM1
    refine j_st (st1 := [.int v2]) rfl ?_
    refine j_if_eq X 155 dL_law_132 (by decide) j_none ?_
    refine j_aload_n X 1 rfl dL_law_135 rfl ?_
    refine j_iconst X (0 : Int32) dL_law_136 (by rfl) ?_
    refine j_call0S X 521 3126 (c_L_isFlagSo X.tr S2.1 X2 (zD (kD κ)) S2.2 hK2.1 (0 : Int32)) me_L_isFlagSo ml_L_179 st_L_isFlagSo dL_law_137 (rest := []) rfl rfl (hR _ _ (by decide)) (by decide) (Nat.le_of_ble_eq_true rfl) (fun v3 S3 M1 hM1 => ?_)
    subst hM1
    refine j_st (st1 := [.int v3]) rfl ?_
    refine j_if_eq X 155 dL_law_140 (by decide) j_none ?_
    refine j_aload_n X 1 rfl dL_law_143 rfl ?_
    refine j_iconst X (1 : Int32) dL_law_144 (by rfl) ?_
    refine j_call0S X 0 0 (c_L_isFlagSo X.tr S3 X2 (zD (kD κ)) S2.2 hK2.1 (1 : Int32)) me_L_isFlagSo ml_L_179 st_L_isFlagSo dL_law_145 (rest := []) rfl rfl (hR _ _ (by decide)) (by decide) (Nat.le_of_ble_eq_true rfl) (fun v4 S4 M1 hM1 => ?_)
    subst hM1
    refine j_st (st1 := [.int v4]) rfl ?_
    refine j_if_eq X 155 dL_law_148 (by decide) j_none ?_
    refine j_iconst X (1 : Int32) dL_law_151 (by rfl) ?_
    refine j_goto X 156 dL_law_152 (by decide) ?_
    exact hend _ _ _ _
  · refine j_aload_n X 0 rfl dL_law_24 rfl ?_
    refine j_iload_n X 3 rfl dL_law_25 rfl ?_
    refine j_cell X hJ.2.2.2.2.1 hJ.2.2.2.2.2.1 hJ.2.2.2.2.2.2 me_L_cell ml_L_168 st_L_cell dL_law_26 (rest := []) rfl ⟨Nat.le_of_ble_eq_true rfl, Nat.le_of_ble_eq_true rfl⟩ (Nat.le_of_ble_eq_true rfl) (fun v => ?_)
    refine j_istore X ((4, .int v) :: lvE (kB κ) b0 e) dL_law_29 (by decide) rfl ?_
    refine j_aload_n X 2 rfl dL_law_31 rfl ?_
    refine j_iload X 0 rfl dL_law_32 ?_
    refine j_call0S X (bc1 + 1904) (bs1 + 14966) (c_L_act X.tr S _ L hJ.hLo v) me_L_act ml_L_172 st_L_act dL_law_34 (rest := []) rfl rfl (hR _ _ (by decide)) ⟨by show 96 + _ ≤ _; omega, by show 4134 + _ ≤ _; omega⟩ (Nat.le_of_ble_eq_true rfl) (fun v1 S1 M1 hM1 => ?_)
    obtain ⟨X1, rfl, hK1⟩ := hM1
    obtain ⟨e1, hJ1⟩ := hJ.o hK1
    refine j_eqM (congrArg (memG 0 358 (kD κ) (kB κ) S1.1) e1) ?_
    refine j_st (st1 := [.int v1]) rfl ?_
    refine j_istore X ((5, .int v1) :: (4, .int v) :: lvE (kB κ) b0 e) dL_law_37 (by decide) rfl ?_
    refine j_iload X 0 rfl dL_law_39 ?_
    refine j_ldc X kc_L_16 dL_law_41 ?_
    refine j_icmp_eq X 57 dL_law_43 (by decide) ?_ ?_
    · refine j_bud (bc1 := bc1 + 1801) (bs1 := bs1 + 10806) (by omega) (by omega) ?_
      exact c_like X bc1 bs1 hJ1 hrec
    · refine j_aload_n X 4 rfl dL_law_46 rfl ?_
      refine j_iload X 1 rfl dL_law_47 ?_
      refine j_eqM swapM ?_
      refine j_call0S X (bc1 + 1801) (bs1 + 10806) ((c_L_act (B := kB κ + 358) X.tr T _ L2 hJ1.hLp v).lift (Nat.le_add_right _ _) hJ.hz) me_L_act ml_L_172 st_L_act dL_law_49 (rest := []) rfl rfl (hR _ _ (by decide)) ⟨by show 96 + _ ≤ _; omega, by show 4134 + _ ≤ _; omega⟩ (Nat.le_of_ble_eq_true rfl) (fun v2 T1 M1 hM1 => ?_)
      obtain ⟨X2, rfl, hK2⟩ := hM1
      obtain ⟨e2, hJ2⟩ := hJ1.p hK2
      refine j_eqM (congrArg (memG 0 358 (kD κ) (kB κ + 358) T1.1) e2) ?_
      refine j_eqM swapM.symm ?_
      refine j_st (st1 := [.int v2]) rfl ?_
      refine j_iload X 0 rfl dL_law_52 ?_
      refine j_icmp_ne X 67 dL_law_54 (by decide) ?_ j_none
      exact c_like X bc1 bs1 hJ2 hrec
theorem c_law_loop (X : jX κ RL code 6 (some .boolean)) (hend : ∀ (M : jMem) (bc bs : Nat) (lv : List (Nat × Value)), J κ 6 room_1 Qf (some 1) M (zD (kD κ)) bc bs lv 156 [.int 1]) :
    ∀ (n : Nat) (e : Int32) (S : jS) (L : jLg) (T : jS) (L2 : jLg) (Xm : jMem), GJ (kS κ) (kD κ) (kB κ) (kT κ) b0 N xs L L2 Xm → J κ 6 room_1 Qf (lawF N xs n e S L T L2) (mem2 (kD κ) (kB κ) S T Xm) (zD (kD κ)) (2000 * n) (19100 * n) (lvE (kB κ) b0 e) 18 []
  | 0, _, _, _, _, _, _, _ => j_none
  | n + 1, e, S, L, T, L2, Xm, hJ => c_step X (2000 * n) (19100 * n) hJ hend (fun S L T L2 Xm hJ => by
      refine j_iinc X 3 [(3, .int (e + (1 : Int32))), (0, .ref b0), (1, .ref (kB κ + 0)), (2, .ref (kB κ + 358))] dL_law_113 rfl (by rfl) (by decide) rfl ?_
      refine j_goto X 18 dL_law_116 (by decide) ?_
      refine j_lv [1, 2, 3, 0] rfl ?_
      exact c_law_loop X hend n (e + (1 : Int32)) S L T L2 Xm hJ)
/-- the beginning: the two things are made -/
theorem c_law_begin (X : jX κ RL code 6 (some .boolean)) (hb : b0 < kB κ) (hx : b0 < (kS κ).heap.size ∧ va_X b0 N xs (kS κ) (kS κ).heap) (hlm : lmt (kD κ) = kB κ + 716)
    {vG vH vR : Int32} {SG SH SR : jS} {SP : Nat → jS} (hG : f_X4_arrange zS 27 6 = some (0, vG, SG)) (hH : f_X4_arrange zS 62 8 = some (0, vH, SH)) (hR : f_X5_forget zS 68 = some (0, vR, SR)) (hP : ∀ p, p < 20 → ∃ v, f_X5_forget zS (82 + 12 * p) = some (0, v, SP p))
    (hend : ∀ (M : jMem) (bc bs : Nat) (lv : List (Nat × Value)), J κ 6 room_1 Qf (some 1) M (zD (kD κ)) bc bs lv 156 [.int 1]) :
    J κ 6 room_1 Qf (lawF N xs 101 0 (sF SG SH SR SP) [] (sF SG SH SR SP) []) (fun _ => none) (fun n => n = kB κ + 0) 300000 3000000 [(0, .ref b0)] 0 [] := by
  refine j_new X (bc1 := 299000) (bs1 := 2990000) cf_X10 cl_L_9 ⟨it_X10, in_X10⟩ hf_X10 dL_law_0 (by decide) ?_
  refine j_zle (z1 := fun n => n = kB κ + 1) (fun n9 hn9 => by have hn9 : n9 = _ := hn9; omega) ?_
  refine j_dup X dL_law_3 rfl ?_
  refine j_eq (o1 := jbin0 (some ((0 : Nat), (0 : Int32), ())) (fun _ _ => lawF N xs 101 0 (sF SG SH SR SP) [] (sF SG SH SR SP) [])) rfl ?_
  refine j_call0I X 298000 2980000 (c_X10_init X.tr _ jUp_eq hG hH hR hP) me_X10_init ml_L_167 ii_X10_init dL_law_4 (rest := [.ref (kB κ + 0)]) rfl rfl ⟨Nat.le_of_ble_eq_true rfl, Nat.le_of_ble_eq_true rfl⟩ (by decide) (Nat.le_of_ble_eq_true rfl) (fun v S' M' hM' => ?_)
  subst hM'
  refine j_astore_n X [(1, .ref (kB κ + 0)), (0, .ref b0)] dL_law_7 rfl (by decide) rfl ?_
  refine j_new X (bc1 := 297000) (bs1 := 2970000) cf_X10 cl_L_9 ⟨it_X10, in_X10⟩ hf_X10 dL_law_8 (by decide) ?_
  refine j_zle (z1 := fun n => n = kB κ + 358 + 1) (fun n9 hn9 => by have hn9 : n9 = _ := hn9; omega) ?_
  refine j_dup X dL_law_11 rfl ?_
  refine j_eq (o1 := jbin0 (some ((0 : Nat), (0 : Int32), ())) (fun _ _ => lawF N xs 101 0 (sF SG SH SR SP) [] (sF SG SH SR SP) [])) rfl ?_
  refine j_call0I X 296000 2960000 ((c_X10_init (B := kB κ + 358) X.tr _ jUp_eq hG hH hR hP).lift (Nat.le_add_right _ _) (fun n hn => by have hn : n = _ := hn; omega)) me_X10_init ml_L_167 ii_X10_init dL_law_12 (rest := [.ref (kB κ + 358)]) rfl rfl ⟨Nat.le_of_ble_eq_true rfl, Nat.le_of_ble_eq_true rfl⟩ (by decide) (Nat.le_of_ble_eq_true rfl) (fun v S' M' hM' => ?_)
  subst hM'
  refine j_astore_n X [(2, .ref (kB κ + 358)), (1, .ref (kB κ + 0)), (0, .ref b0)] dL_law_15 rfl (by decide) rfl ?_
  refine j_iconst X (0 : Int32) dL_law_16 (by rfl) ?_
  refine j_istore_n X [(3, .int (0 : Int32)), (2, .ref (kB κ + 358)), (1, .ref (kB κ + 0)), (0, .ref b0)] dL_law_17 rfl (by decide) rfl ?_
  refine j_lv [3, 2, 1, 0] rfl ?_
  refine j_zle (z1 := zD (kD κ)) (fun n9 hn9 => by
    have hn9 : n9 = _ := hn9
    show lmt (kD κ) ≤ n9
    omega) ?_
  refine j_bud (bc1 := 2000 * 101) (bs1 := 19100 * 101) (by decide) (by decide) ?_
  refine j_mem (M1 := mem2 (kD κ) (kB κ) (sF SG SH SR SP) (sF SG SH SR SP) (jUp (jUp (fun _ => none) (kB κ + 66) (listC 0 (kT κ) 0)) (kB κ + 358 + 66) (listC 0 (kT κ) 0))) (fun a e he => ?_) ?_
  · unfold mem2 memG at he
    unfold memG
    by_cases h1 : kB κ + 0 ≤ a ∧ a < kB κ + 358 ∧ kd (a - kB κ) ≠ 0
    · rw [if_pos h1] at he
      rw [if_neg (by omega), jUp_ne (by omega), jUp_ne (by omega), if_pos (by omega)]
      exact he
    · rw [if_neg h1] at he
      by_cases h2 : kB κ + 358 + 0 ≤ a ∧ a < kB κ + 358 + 358 ∧ kd (a - (kB κ + 358)) ≠ 0
      · rw [if_pos h2] at he
        rw [if_pos (by omega)]
        exact he
      · rw [if_neg h2] at he
        rw [if_neg (by omega)]
        by_cases h3 : a = kB κ + 358 + 66
        · subst h3
          rw [jUp_eq] at he ⊢
          exact he
        · rw [jUp_ne h3] at he ⊢
          by_cases h4 : a = kB κ + 66
          · subst h4
            rw [jUp_eq] at he
            rw [jUp_ne (by omega), if_neg (fun h => h.2.2 (by rw [Nat.add_sub_cancel_left]; decide +kernel)), jUp_eq]
            exact he
          · rw [jUp_ne h4] at he
            cases he
  · have ht : kT κ < kB κ := X.k.1.2.2.2.2.1
    have hl0 : ∀ (B : Nat) (Y : jMem), B + 358 ≤ lmt (kD κ) → kT κ < B → Y (B + 66) = some (listC 0 (kT κ) 0) → LogX (kD κ) B (kT κ) [] Y := fun B Y g1 g2 g3 => ⟨g1, 0, kT κ, 0, fun _ => none, g3, fun hc => absurd hc (Nat.lt_irrefl _), Nat.le_refl _, by decide, Or.inl ⟨rfl, rfl, g2⟩, fun i hi => absurd hi (Nat.not_lt_zero _)⟩
    have e1 : jUp (jUp (fun _ => none) (kB κ + 66) (listC 0 (kT κ) 0)) (kB κ + 358 + 66) (listC 0 (kT κ) 0) (kB κ + 66) = some (listC 0 (kT κ) 0) := (jUp_ne (by omega)).trans jUp_eq
    have e2 : jUp (jUp (fun _ => none) (kB κ + 66) (listC 0 (kT κ) 0)) (kB κ + 358 + 66) (listC 0 (kT κ) 0) (kB κ + 358 + 66) = some (listC 0 (kT κ) 0) := jUp_eq
    exact c_law_loop X hend 101 0 _ [] _ [] _ ⟨hl0 _ _ (by omega) ht e1, hl0 _ _ (by omega) (by omega) e2, fun a q1 _ => (Option.some.inj ((adOf_of e1).symm.trans q1)).symm, ht, hb, hx⟩
end LAWW
