section LST
abbrev getClassN : MethodName := ⟨"java/lang/Object", "getClass", "()Ljava/lang/Class;"⟩
abbrev listC (mc : Int32) (ad : Nat) (n : Int32) : va_E := .inr (0, [.int mc, .ref ad, .int n])
abbrev objs (D : va_G) (n : Nat) (f : Nat → Option Nat) : va_E := .inl (D.1 29, n, .inr (.inr (.inr (.inr f))))
theorem jUp_ne {M : jMem} {a q : Nat} {e : va_E} (h : q ≠ a) : jUp M a e q = M q := if_neg h
theorem jUp_eq {M : jMem} {a : Nat} {e : va_E} : jUp M a e a = some e := if_pos rfl
theorem jUp_up {M : jMem} {a : Nat} {e e' : va_E} : jUp (jUp M a e) a e' = jUp M a e' := by
  funext q
  unfold jUp
  by_cases h : q = a <;> simp [h]
variable {l : Launch} {D : va_G} {B t0 : Nat}
abbrev rm_AL0 : Room := { frames := 0, cells := 0, slots := 0, locals := 0 }
theorem c_AL_size (hl9 : l.stackTraces = false) (M : jMem) (z : Nat → Prop) {b ad : Nat} {mc n : Int32} (hM : M b = some (listC mc ad n)) : jCf l D B t0 yJx4a65c_size_8abf5 cJx4a65c_size_8abf5 1 (some .int) rm_AL0 [.ref b] M z (some (0, n, ())) rvI (fun (_ : Unit) M9 => M9 = M) z := by
  refine jC_of hl9 (me_Jx4a65c_size_8abf5).1 [(0, .ref b)] ⟨by decide +kernel, Nat.le_of_ble_eq_true rfl⟩ rfl (fun κ hl hD hB hT X htab hin => ?_)
  subst hl hD hB hT
  have X : jX κ RJx4a65c cJx4a65c_size_8abf5 1 (some .int) := X
  refine j_aload_n X 0 rfl dJx4a65c_size_8abf5_0 rfl ?_
  refine j_getf X 2 cf_Jx4a65c (by decide) fl_Jx4a65c_48 dJx4a65c_size_8abf5_1 hM rfl ?_
  exact j_iret X dJx4a65c_size_8abf5_4 rfl (fun _ h => h)
theorem c_AL_chk3 (hl9 : l.stackTraces = false) (M : jMem) (z : Nat → Prop) {i n : Int32} (h0 : ¬ i < 0) (hi : i < n) : jCf l D B t0 yJ3_checkIndex_8e157 cJ3_checkIndex_8e157 3 (some .int) rm_AL0 [.int i, .int n, .null] M z (some (0, i, ())) rvI (fun (_ : Unit) M9 => M9 = M) z := by
  refine jC_of hl9 (me_J3_checkIndex_8e157).1 [(0, .int i), (1, .int n), (2, .null)] ⟨by decide +kernel, Nat.le_of_ble_eq_true rfl⟩ rfl (fun κ hl hD hB hT X htab hin => ?_)
  subst hl hD hB hT
  have X : jX κ RJ3 cJ3_checkIndex_8e157 3 (some .int) := X
  refine j_iload_n X 0 rfl dJ3_checkIndex_8e157_0 rfl ?_
  refine jh_if_lt X 9 dJ3_checkIndex_8e157_1 (by decide) (fun h => absurd h h0) (fun _ => ?_)
  refine j_iload_n X 0 rfl dJ3_checkIndex_8e157_4 rfl ?_
  refine j_iload_n X 1 rfl dJ3_checkIndex_8e157_5 rfl ?_
  refine jh_icmp_lt X 16 dJ3_checkIndex_8e157_6 (by decide) (fun _ => ?_) (fun h => absurd hi h)
  refine j_iload_n X 0 rfl dJ3_checkIndex_8e157_16 rfl ?_
  exact j_iret X dJ3_checkIndex_8e157_17 rfl (fun _ h => h)
abbrev rm_AL1 : Room := { frames := 1, cells := 0, slots := 0, locals := 22 }
theorem c_AL_chk (hl9 : l.stackTraces = false) (M : jMem) (z : Nat → Prop) {i n : Int32} (h0 : ¬ i < 0) (hi : i < n) : jCf l D B t0 yJ15_checkIndex_7cf53 cJ15_checkIndex_7cf53 2 (some .int) rm_AL1 [.int i, .int n] M z (some (0, i, ())) rvI (fun (_ : Unit) M9 => M9 = M) z := by
  refine jC_of hl9 (me_J15_checkIndex_7cf53).1 [(0, .int i), (1, .int n)] ⟨by decide +kernel, Nat.le_of_ble_eq_true rfl⟩ rfl (fun κ hl hD hB hT X htab hin => ?_)
  subst hl hD hB hT
  have X : jX κ RJ15 cJ15_checkIndex_7cf53 2 (some .int) := X
  refine j_eq (o1 := jbin0 (some ((0 : Nat), i, ())) (fun v _ => some (0, v, ()))) rfl ?_
  refine j_iload_n X 0 rfl dJ15_checkIndex_7cf53_0 rfl ?_
  refine j_iload_n X 1 rfl dJ15_checkIndex_7cf53_1 rfl ?_
  refine j_null X dJ15_checkIndex_7cf53_2 ?_
  refine j_call0S X 0 0 (c_AL_chk3 X.tr M z h0 hi) me_J3_checkIndex_8e157 ml_J15_105 st_J3_checkIndex_8e157 dJ15_checkIndex_7cf53_3 (rest := []) rfl rfl (by decide) (by decide) (Nat.le_of_ble_eq_true rfl) (fun v S' M' hM' => ?_)
  subst hM'
  exact j_iret X dJ15_checkIndex_7cf53_6 rfl (fun _ h => h)
theorem c_AL_el (hl9 : l.stackTraces = false) (M : jMem) (z : Nat → Prop) {b ad cap q : Nat} {f : Nat → Option Nat} {mc n i : Int32} (hM : M b = some (listC mc ad n)) (hA : M ad = some (objs D cap f)) (hi : vp_in i cap) (hf : f i.toNatClampNeg = some q) : jCf l D B t0 yJx4a65c_elementData_915e3 cJx4a65c_elementData_915e3 2 (some (.object "java/lang/Object")) rm_AL0 [.ref b, .int i] M z (some (0, 0, ())) (fun _ => some (.ref q)) (fun (_ : Unit) M9 => M9 = M) z := by
  refine jC_of hl9 (me_Jx4a65c_elementData_915e3).1 [(0, .ref b), (1, .int i)] ⟨by decide +kernel, Nat.le_of_ble_eq_true rfl⟩ rfl (fun κ hl hD hB hT X htab hin => ?_)
  subst hl hD hB hT
  have X : jX κ RJx4a65c cJx4a65c_elementData_915e3 2 (some (.object "java/lang/Object")) := X
  refine j_aload_n X 0 rfl dJx4a65c_elementData_915e3_0 rfl ?_
  refine j_getf X 1 cf_Jx4a65c (by decide) fl_Jx4a65c_9 dJx4a65c_elementData_915e3_1 hM rfl ?_
  refine j_iload_n X 1 rfl dJx4a65c_elementData_915e3_4 rfl ?_
  refine j_aald X 9 rfl rfl hi dJx4a65c_elementData_915e3_5 hA hf ?_
  exact j_aret X dJx4a65c_elementData_915e3_6 (Or.inl ⟨_, rfl⟩) rfl (fun _ h => h)
abbrev rm_ALg : Room := { frames := 2, cells := 0, slots := 0, locals := 43 }
theorem c_AL_get (hl9 : l.stackTraces = false) (M : jMem) (z : Nat → Prop) {b ad cap q : Nat} {f : Nat → Option Nat} {mc n i : Int32} (hM : M b = some (listC mc ad n)) (hA : M ad = some (objs D cap f)) (h0 : ¬ i < 0) (hn : i < n) (hi : vp_in i cap) (hf : f i.toNatClampNeg = some q) : jCf l D B t0 yJx4a65c_get_915e3 cJx4a65c_get_915e3 2 (some (.object "java/lang/Object")) rm_ALg [.ref b, .int i] M z (some (0, 0, ())) (fun _ => some (.ref q)) (fun (_ : Unit) M9 => M9 = M) z := by
  refine jC_of hl9 (me_Jx4a65c_get_915e3).1 [(0, .ref b), (1, .int i)] ⟨by decide +kernel, Nat.le_of_ble_eq_true rfl⟩ rfl (fun κ hl hD hB hT X htab hin => ?_)
  subst hl hD hB hT
  have X : jX κ RJx4a65c cJx4a65c_get_915e3 2 (some (.object "java/lang/Object")) := X
  refine j_eq (o1 := jbin0 (some ((0 : Nat), i, ())) (fun _ _ => jbin0 (some ((0 : Nat), (0 : Int32), ())) (fun v _ => some (0, v, ())))) rfl ?_
  refine j_iload_n X 1 rfl dJx4a65c_get_915e3_0 rfl ?_
  refine j_aload_n X 0 rfl dJx4a65c_get_915e3_1 rfl ?_
  refine j_getf X 2 cf_Jx4a65c (by decide) fl_Jx4a65c_48 dJx4a65c_get_915e3_2 hM rfl ?_
  refine j_call0S X 0 0 (c_AL_chk X.tr M z h0 hn) me_J15_checkIndex_7cf53 ml_Jx4a65c_118 st_J15_checkIndex_7cf53 dJx4a65c_get_915e3_5 (rest := []) rfl rfl (by decide) (by decide) (Nat.le_of_ble_eq_true rfl) (fun v S' M' hM' => ?_)
  subst hM'
  refine j_pop X dJx4a65c_get_915e3_8 rfl ?_
  refine j_aload_n X 0 rfl dJx4a65c_get_915e3_9 rfl ?_
  refine j_iload_n X 1 rfl dJx4a65c_get_915e3_10 rfl ?_
  refine j_call0V X 0 0 (c_AL_el X.tr _ z hM hA hi hf) me_Jx4a65c_elementData_915e3 ml_Jx4a65c_123 iv_Jx4a65c_elementData_915e3 cf_Jx4a65c dJx4a65c_get_915e3_11 hM (rest := []) rfl rfl (by decide) (by decide) (Nat.le_of_ble_eq_true rfl) (fun v S' M' hM' => ?_)
  subst hM'
  exact j_aret X dJx4a65c_get_915e3_14 (Or.inl ⟨_, rfl⟩) rfl (fun _ h => h)
abbrev rm_ALn : Room := { frames := 1, cells := 0, slots := 0, locals := 16 }
theorem c_AL_newLen (hl9 : l.stackTraces = false) (M : jMem) (z : Nat → Prop) {c mg pf v : Int32} (hv : c + (if mg < pf then pf else mg) = v) (h1 : ¬ v ≤ 0) (h2 : ¬ (2147483639 : Int32) < v) : jCf l D B t0 yJ8_newLength_cabcc cJ8_newLength_cabcc 4 (some .int) rm_ALn [.int c, .int mg, .int pf] M z (some (0, v, ())) rvI (fun (_ : Unit) M9 => M9 = M) z := by
  refine jC_of hl9 (me_J8_newLength_cabcc).1 [(0, .int c), (1, .int mg), (2, .int pf)] ⟨by decide +kernel, Nat.le_of_ble_eq_true rfl⟩ rfl (fun κ hl hD hB hT X htab hin => ?_)
  subst hl hD hB hT
  have X : jX κ RJ8 cJ8_newLength_cabcc 4 (some .int) := X
  refine j_iload_n X 0 rfl dJ8_newLength_cabcc_0 rfl ?_
  refine j_iload_n X 1 rfl dJ8_newLength_cabcc_1 rfl ?_
  refine j_iload_n X 2 rfl dJ8_newLength_cabcc_2 rfl ?_
  refine j_mmax X ml_J8_194 st_mmax in_Math co_mmax dJ8_newLength_cabcc_3 ⟨Nat.le_of_ble_eq_true rfl, Nat.le_of_ble_eq_true rfl⟩ ?_
  refine j_iadd X dJ8_newLength_cabcc_6 ?_
  rw [hv]
  refine j_istore_n X [(3, .int v), (0, .int c), (1, .int mg), (2, .int pf)] dJ8_newLength_cabcc_7 rfl (by decide) rfl ?_
  refine j_iconst X (0 : Int32) dJ8_newLength_cabcc_8 (by rfl) ?_
  refine j_iload_n X 0 rfl dJ8_newLength_cabcc_9 rfl ?_
  refine jh_icmp_ge X 21 dJ8_newLength_cabcc_10 (by decide) (fun h => absurd h h1) (fun _ => ?_)
  refine j_iload_n X 0 rfl dJ8_newLength_cabcc_13 rfl ?_
  refine j_ldc X kc_J8_200 dJ8_newLength_cabcc_14 ?_
  refine jh_icmp_gt X 21 dJ8_newLength_cabcc_16 (by decide) (fun h => absurd h h2) (fun _ => ?_)
  refine j_iload_n X 0 rfl dJ8_newLength_cabcc_19 rfl ?_
  exact j_iret X dJ8_newLength_cabcc_20 rfl (fun _ h => h)
abbrev rm_ALc : Room := { frames := 1, cells := 1, slots := 600, locals := 60 }
theorem n32_cl {k : Nat} (h : k ≤ 100000) : (Int32.ofNat k).toNatClampNeg = k := Int32.toNatClampNeg_ofNat_of_lt (by omega)
theorem n32_nn {k : Nat} (h : k ≤ 100000) : ¬ Int32.ofNat k < 0 := by
  intro hh
  have := Int32.lt_iff_toInt_lt.mp hh
  rw [Int32.toInt_ofNat_of_lt (by omega)] at this
  simp at this
  omega
theorem n32_of {n : Int32} {N : Nat} (h0 : ¬ n < 0) (hN : n.toNatClampNeg = N) : n.toInt = (N : Int) := by
  have hz0 : (0 : Int) ≤ n.toInt := by
    have := Int32.not_lt.mp h0
    simpa using Int32.le_iff_toInt_le.mp this
  have h2 : n.toInt.toNat = N := hN
  omega
theorem n32_lt {n : Int32} {N k : Nat} (h0 : ¬ n < 0) (hN : n.toNatClampNeg = N) (hk : k ≤ 100000) (h : k ≤ N) : ¬ n < Int32.ofNat k := by
  intro hh
  have h1 := Int32.lt_iff_toInt_lt.mp hh
  rw [Int32.toInt_ofNat_of_lt (by omega), n32_of h0 hN] at h1
  omega
theorem c_AL_copy3 (hl9 : l.stackTraces = false) (M : jMem) (h : Nat) {a0 n0 N : Nat} {f : Nat → Option Nat} {n : Int32} (hM0 : M a0 = some (objs D n0 f)) (hel : ∀ i, i < n0 → ∀ y, f i = some y → ∃ fs, M y = some (.inr (2, fs))) (hn : ¬ n < 0) (hN : n.toNatClampNeg = N) (h01 : n0 ≤ N) (hN6 : N ≤ 600) :
    jCf l D B t0 yJ7_copyOf_6403c cJ7_copyOf_6403c 4 (some (.array (.object "java/lang/Object"))) rm_ALc [.ref a0, .int n, .ref (D.1 30)] M (fun k => k = h) (some (0, 0, ())) (fun _ => some (.ref h)) (fun (_ : Unit) M9 => ∃ g, M9 = jUp M h (objs D N g) ∧ ∀ i, i < n0 → g i = f i) (fun k => k = h + 1) := by
  refine jC_of hl9 (me_J7_copyOf_6403c).1 [(0, .ref a0), (1, .int n), (2, .ref (D.1 30))] ⟨by decide +kernel, Nat.le_of_ble_eq_true rfl⟩ rfl (fun κ hl hD hB hT X htab hin => ?_)
  subst hl hD hB hT
  have X : jX κ RJ7 cJ7_copyOf_6403c 4 (some (.array (.object "java/lang/Object"))) := X
  refine j_size X (fun h' hz hlt hBh => ?_)
  have hz : h' = h := hz
  subst hz
  refine j_aload_n X 2 rfl dJ7_copyOf_6403c_0 rfl ?_
  refine j_ldcM X cl_AR_110 X.k.2.2.2.2.2.1.2 dJ7_copyOf_6403c_1 ?_
  refine j_acmp_ne X 13 dJ7_copyOf_6403c_3 (by decide) (fun h => absurd rfl h) (fun _ => ?_)
  refine j_iload_n X 1 rfl dJ7_copyOf_6403c_6 rfl ?_
  refine j_anew X 9 0 0 rfl cl_AR_2 ao_Obj hn hN (by omega) dJ7_copyOf_6403c_7 ⟨Nat.le_refl _, by show N + 0 ≤ 600; omega⟩ ?_
  refine j_goto X 24 dJ7_copyOf_6403c_10 (by decide) ?_
  refine j_astore_n X [(3, .ref h'), (0, .ref a0), (1, .int n), (2, .ref ((kD κ).1 30))] dJ7_copyOf_6403c_24 rfl (by decide) rfl ?_
  refine j_aload_n X 1 rfl dJ7_copyOf_6403c_25 rfl ?_
  refine j_iconst X (0 : Int32) dJ7_copyOf_6403c_26 (by rfl) ?_
  refine j_aload_n X 0 rfl dJ7_copyOf_6403c_27 rfl ?_
  refine j_iconst X (0 : Int32) dJ7_copyOf_6403c_28 (by rfl) ?_
  refine j_aload_n X 1 rfl dJ7_copyOf_6403c_29 rfl ?_
  have hne : a0 ≠ h' := Nat.ne_of_lt (hlt _ _ hM0)
  have hM1 := (jUp_ne (M := M) (e := objs (kD κ) N (fun _ => none)) hne).trans hM0
  refine j_alen X 9 rfl rfl dJ7_copyOf_6403c_30 hM1 ?_
  refine j_iload_n X 2 rfl dJ7_copyOf_6403c_31 rfl ?_
  refine j_mmin X ml_J7_304 st_mmin in_Math co_mmin dJ7_copyOf_6403c_32 ⟨Nat.le_of_ble_eq_true rfl, Nat.le_of_ble_eq_true rfl⟩ ?_
  rw [if_neg (n32_lt hn hN (by show n0 ≤ _; omega) h01)]
  have hcl : (Int32.ofNat n0).toNatClampNeg = n0 := n32_cl (by omega)
  refine j_copyQ X cf_X1 ca_X1_Obj ml_J7_150 na_ac st_ac in_Sys (by decide) (by decide) (n32_nn (by show n0 ≤ _; omega)) (by show 0 + (Int32.ofNat n0).toNatClampNeg ≤ n0; rw [hcl]; omega) (by show 0 + (Int32.ofNat n0).toNatClampNeg ≤ N; rw [hcl]; omega) (fun i hi y hy => ?_) (by decide +kernel) dJ7_copyOf_6403c_35 hBh hM1 jUp_eq ?_
  · have hi' : i < n0 := by
      have h9 : i < (Int32.ofNat n0).toNatClampNeg := hi
      rw [hcl] at h9
      exact h9
    have hy' : f i = some y := by
      have h9 : f (0 + i) = some y := hy
      rw [Nat.zero_add] at h9
      exact h9
    obtain ⟨fs, hfs⟩ := hel i hi' y hy'
    exact ⟨fs, (jUp_ne (Nat.ne_of_lt (hlt _ _ hfs))).trans hfs⟩
  · refine j_aload_n X 0 rfl dJ7_copyOf_6403c_38 rfl ?_
    refine j_aret X dJ7_copyOf_6403c_39 (Or.inr ⟨_, rfl⟩) ⟨_, jUp_up, fun i hi => ?_⟩ (fun _ h => h)
    show va_cpy f _ 0 0 (Int32.ofNat n0).toNatClampNeg i = _
    rw [hcl]
    unfold va_cpy
    rw [if_pos ⟨Nat.zero_le _, by omega⟩]
    simp
abbrev rm_ALd : Room := { frames := 2, cells := 1, slots := 600, locals := 83 }
theorem c_AL_copy2 (hl9 : l.stackTraces = false) (M : jMem) (h : Nat) {a0 n0 N : Nat} {f : Nat → Option Nat} {n : Int32} (hM0 : M a0 = some (objs D n0 f)) (hel : ∀ i, i < n0 → ∀ y, f i = some y → ∃ fs, M y = some (.inr (2, fs))) (hn : ¬ n < 0) (hN : n.toNatClampNeg = N) (h01 : n0 ≤ N) (hN6 : N ≤ 600) :
    jCf l D B t0 yJ7_copyOf_1904c cJ7_copyOf_1904c 2 (some (.array (.object "java/lang/Object"))) rm_ALd [.ref a0, .int n] M (fun k => k = h) (some (0, 0, ())) (fun _ => some (.ref h)) (fun (_ : Unit) M9 => ∃ g, M9 = jUp M h (objs D N g) ∧ ∀ i, i < n0 → g i = f i) (fun k => k = h + 1) := by
  refine jC_of hl9 (me_J7_copyOf_1904c).1 [(0, .ref a0), (1, .int n)] ⟨by decide +kernel, Nat.le_of_ble_eq_true rfl⟩ rfl (fun κ hl hD hB hT X htab hin => ?_)
  subst hl hD hB hT
  have X : jX κ RJ7 cJ7_copyOf_1904c 2 (some (.array (.object "java/lang/Object"))) := X
  refine j_eq (o1 := jbin0 (some ((0 : Nat), (0 : Int32), ())) (fun v _ => some (0, v, ()))) rfl ?_
  refine j_aload_n X 0 rfl dJ7_copyOf_1904c_0 rfl ?_
  refine j_iload_n X 1 rfl dJ7_copyOf_1904c_1 rfl ?_
  refine j_aload_n X 0 rfl dJ7_copyOf_1904c_2 rfl ?_
  refine j_getC X ml_AR_86 de_gc se_gc im_gc na_gc X.k.2.2.2.2.2.1.2 hM0 ⟨Nat.le_of_ble_eq_true rfl, Nat.le_of_ble_eq_true rfl⟩ dJ7_copyOf_1904c_3 ?_
  refine j_call0S X 0 0 (c_AL_copy3 X.tr M h hM0 hel hn hN h01 hN6) me_J7_copyOf_6403c ml_J7_300 st_J7_copyOf_6403c dJ7_copyOf_1904c_6 (rest := []) rfl rfl (by decide) (by decide) (Nat.le_of_ble_eq_true rfl) (fun v S' M' hM' => ?_)
  exact j_aret X dJ7_copyOf_1904c_9 (Or.inr ⟨_, rfl⟩) hM' (fun _ h => h)
end LST
