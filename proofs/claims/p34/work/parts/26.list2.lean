section LSU
variable {l : Launch} {D : va_G} {B t0 : Nat}
/-- the next capacity -/
def capN (c : Nat) : Int32 := Int32.ofNat c + (if Int32.ofNat c + 1 - Int32.ofNat c < Int32.ofNat c >>> ((1 : Int32) &&& 31) then Int32.ofNat c >>> ((1 : Int32) &&& 31) else Int32.ofNat c + 1 - Int32.ofNat c)
def capOk (c : Nat) : Bool := c == 0 || (decide (0 < Int32.ofNat c) && !decide (capN c ≤ 0) && !decide ((2147483639 : Int32) < capN c) && !decide (capN c < 0) && decide (c < (capN c).toNatClampNeg) && decide ((capN c).toNatClampNeg ≤ 600))
theorem capN_all : (List.range 400).all capOk = true := by decide +kernel
theorem capN_ok {c : Nat} (h0 : 0 < c) (h : c < 400) : 0 < Int32.ofNat c ∧ ¬ capN c ≤ 0 ∧ ¬ (2147483639 : Int32) < capN c ∧ ¬ capN c < 0 ∧ c < (capN c).toNatClampNeg ∧ (capN c).toNatClampNeg ≤ 600 := by
  have := List.all_eq_true.mp capN_all c (List.mem_range.mpr h)
  unfold capOk at this
  simp only [Bool.or_eq_true, beq_iff_eq, Bool.and_eq_true, Bool.not_eq_true', decide_eq_true_eq, decide_eq_false_iff_not] at this
  rcases this with h1 | ⟨⟨⟨⟨⟨h1, h2⟩, h3⟩, h4⟩, h5⟩, h6⟩
  · omega
  · exact ⟨h1, h2, h3, h4, h5, h6⟩
/-- the length of a list's array -/
theorem j_alenL {κ : jCx} {own : String} {cc : ByteArray} {nL : Nat} {ret : Option FieldType} {R : Room} {ρ : Type} {Qf : ρ → State → Prop} {o : Option ρ} {M : jMem} {z : Nat → Prop} {bc bs : Nat} {lv : List (Nat × Value)} {pc : Nat} {st : List Value} (X : jX κ own cc nL ret) {ad cap : Nat} {f : Nat → Option Nat} (hA : 0 < cap → M ad = some (objs (kD κ) cap f)) (hcase : (cap = 0 ∧ ad = kT κ) ∨ 0 < cap) (d : decode cc pc = .ok (.arraylength, 1))
    (kk : J κ nL R Qf o M z bc bs lv (pc + 1) (.int (Int32.ofNat cap) :: st)) : J κ nL R Qf o M z bc bs lv pc (.ref ad :: st) := by
  rcases hcase with ⟨h1, h2⟩ | h1
  · subst h1
    subst h2
    intro r ho H locs cells slots ls g1 g2 g3 g4 g5 g6
    obtain ⟨q1, cell, q2, q3, -, q5⟩ := X.k.1.2.2.2.2
    exact W.alen X.1 X.2.1 ((g3.2.1 _ (Array.getElem?_eq_some_iff.mp q2).1 (Nat.not_le.mpr q1)).trans q2) q3 (by rw [q5] <;> rfl) rfl rfl d (kk r ho H locs cells slots ls g1 g2 g3 g4 g5 g6)
  · exact j_alen X 9 rfl rfl d (hA h1) kk
abbrev rm_AGi : Room := { frames := 3, cells := 1, slots := 600, locals := 106 }
/-- what a list has after growing -/
def grown (D : va_G) (M : jMem) (b h : Nat) (mc : Int32) (cap : Nat) (f : Nat → Option Nat) (M9 : jMem) : Prop :=
  ∃ cap' g, M9 = jUp (jUp M h (objs D cap' g)) b (listC mc h (Int32.ofNat cap)) ∧ cap < cap' ∧ cap' ≤ 600 ∧ ∀ i, i < cap → g i = f i
theorem c_AL_growi (hl9 : l.stackTraces = false) (M : jMem) (h : Nat) {b ad cap : Nat} {f : Nat → Option Nat} {mc : Int32} (hb : B ≤ b) (hM : M b = some (listC mc ad (Int32.ofNat cap))) (hA : 0 < cap → M ad = some (objs D cap f)) (hc : cap < 400) (hcase : (cap = 0 ∧ ad = t0) ∨ 0 < cap) (hel : ∀ i, i < cap → ∀ y, f i = some y → ∃ fs, M y = some (.inr (2, fs))) :
    jCf l D B t0 yJx4a65c_grow_92f84 cJx4a65c_grow_92f84 4 (some (.array (.object "java/lang/Object"))) rm_AGi [.ref b, .int (Int32.ofNat cap + 1)] M (fun k => k = h) (some (0, 0, ())) (fun _ => some (.ref h)) (fun (_ : Unit) M9 => grown D M b h mc cap f M9) (fun k => k = h + 1) := by
  refine jC_of hl9 (me_Jx4a65c_grow_92f84).1 [(0, .ref b), (1, .int (Int32.ofNat cap + 1))] ⟨by decide +kernel, Nat.le_of_ble_eq_true rfl⟩ rfl (fun κ hl hD hB hT X htab hin => ?_)
  subst hl hD hB hT
  have X : jX κ RJx4a65c cJx4a65c_grow_92f84 4 (some (.array (.object "java/lang/Object"))) := X
  refine j_size X (fun h' hz hlt hBh => ?_)
  have hz : h' = h := hz
  subst hz
  have hbh : b ≠ h' := Nat.ne_of_lt (hlt _ _ hM)
  refine j_aload_n X 0 rfl dJx4a65c_grow_92f84_0 rfl ?_
  refine j_getf X 1 cf_Jx4a65c (by decide) fl_Jx4a65c_9 dJx4a65c_grow_92f84_1 hM rfl ?_
  refine j_alenL X hA hcase dJx4a65c_grow_92f84_4 ?_
  refine j_istore_n X [(2, .int (Int32.ofNat cap)), (0, .ref b), (1, .int (Int32.ofNat cap + 1))] dJx4a65c_grow_92f84_5 rfl (by decide) rfl ?_
  refine j_iload_n X 0 rfl dJx4a65c_grow_92f84_6 rfl ?_
  refine jh_if_gt X 20 dJx4a65c_grow_92f84_7 (by decide) (fun hp => ?_) (fun hp => ?_)
  · have h0 : 0 < cap := by
      rcases Nat.eq_zero_or_pos cap with e | e
      · rw [e] at hp
        exact absurd hp (by decide)
      · exact e
    obtain ⟨-, k1, k2, k3, k4, k5⟩ := capN_ok h0 hc
    refine j_eq (o1 := jbin0 (some ((0 : Nat), capN cap, ())) (fun v _ => chk (decide (v = capN cap)) (jbin0 (some ((0 : Nat), (0 : Int32), ())) (fun v _ => some (0, v, ()))))) (by simp [jbin0, chk]) ?_
    refine j_iload_n X 0 rfl dJx4a65c_grow_92f84_20 rfl ?_
    refine j_iload_n X 2 rfl dJx4a65c_grow_92f84_21 rfl ?_
    refine j_iload_n X 0 rfl dJx4a65c_grow_92f84_22 rfl ?_
    refine j_isub X dJx4a65c_grow_92f84_23 ?_
    refine j_iload_n X 0 rfl dJx4a65c_grow_92f84_24 rfl ?_
    refine j_iconst X (1 : Int32) dJx4a65c_grow_92f84_25 (by rfl) ?_
    refine j_ishr X dJx4a65c_grow_92f84_26 ?_
    refine j_call0S X 1 600 (c_AL_newLen (v := capN cap) X.tr M (fun k => k = h') rfl k1 k2) me_J8_newLength_cabcc ml_Jx4a65c_73 st_J8_newLength_cabcc dJx4a65c_grow_92f84_27 (rest := []) rfl rfl (by decide) (by decide) (Nat.le_of_ble_eq_true rfl) (fun v S' M' hM' => ?_)
    subst hM'
    refine j_chk (fun hv => ?_)
    have hv : v = capN cap := of_decide_eq_true hv
    subst hv
    refine j_istore_n X [(3, .int (capN cap)), (2, .int (Int32.ofNat cap)), (0, .ref b), (1, .int (Int32.ofNat cap + 1))] dJx4a65c_grow_92f84_30 rfl (by decide) rfl ?_
    refine j_aload_n X 2 rfl dJx4a65c_grow_92f84_31 rfl ?_
    refine j_aload_n X 2 rfl dJx4a65c_grow_92f84_32 rfl ?_
    refine j_getf X 1 cf_Jx4a65c (by decide) fl_Jx4a65c_9 dJx4a65c_grow_92f84_33 hM rfl ?_
    refine j_iload_n X 0 rfl dJx4a65c_grow_92f84_36 rfl ?_
    refine j_call0S X 0 0 (c_AL_copy2 X.tr _ h' (hA h0) hel k3 rfl (Nat.le_of_lt k4) k5) me_J7_copyOf_1904c ml_Jx4a65c_66 st_J7_copyOf_1904c dJx4a65c_grow_92f84_37 (rest := [.ref b]) rfl rfl (by decide) (by decide) (Nat.le_of_ble_eq_true rfl) (fun v S' M' hM' => ?_)
    obtain ⟨g, rfl, hg⟩ := hM'
    refine j_dup_x1 X dJx4a65c_grow_92f84_40 rfl rfl ?_
    refine j_putf X 1 cf_Jx4a65c (by decide) fl_Jx4a65c_9 dJx4a65c_grow_92f84_41 rfl rfl rfl hb ((jUp_ne hbh).trans hM) (Nat.le_of_ble_eq_true rfl) ?_
    exact j_aret X dJx4a65c_grow_92f84_44 (Or.inr ⟨_, rfl⟩) ⟨_, g, rfl, k4, k5, hg⟩ (fun _ h => h)
  · have h0 : cap = 0 := by
      rcases Nat.eq_zero_or_pos cap with e | e
      · exact e
      · exact absurd (capN_ok e hc).1 hp
    subst h0
    have had : ad = kT κ := hcase.elim (fun h => h.2) (fun h => absurd h (Nat.lt_irrefl _))
    refine j_aload_n X 1 rfl dJx4a65c_grow_92f84_10 rfl ?_
    refine j_getf X 1 cf_Jx4a65c (by decide) fl_Jx4a65c_9 dJx4a65c_grow_92f84_11 hM rfl ?_
    refine j_gets X X.k.2.2.2.2.2.1.1 fl_AL_39 dJx4a65c_grow_92f84_14 ?_
    refine j_acmp_eq X 45 dJx4a65c_grow_92f84_17 (by decide) (fun _ => ?_) (fun h => absurd had h)
    refine j_aload_n X 1 rfl dJx4a65c_grow_92f84_45 rfl ?_
    refine j_bipush X (10 : Int32) dJx4a65c_grow_92f84_46 (by rfl) ?_
    refine j_iload_n X 2 rfl dJx4a65c_grow_92f84_48 rfl ?_
    refine j_mmax X ml_Jx4a65c_79 st_mmax in_Math co_mmax dJx4a65c_grow_92f84_49 ⟨Nat.le_of_ble_eq_true rfl, Nat.le_of_ble_eq_true rfl⟩ ?_
    refine j_anew X (N := 10) 9 0 0 rfl cl_AL_7 ao_Obj (by decide) (by decide) (by decide) dJx4a65c_grow_92f84_52 (by decide) ?_
    refine j_dup_x1 X dJx4a65c_grow_92f84_55 rfl rfl ?_
    refine j_putf X 1 cf_Jx4a65c (by decide) fl_Jx4a65c_9 dJx4a65c_grow_92f84_56 rfl rfl rfl hb ((jUp_ne hbh).trans hM) (Nat.le_of_ble_eq_true rfl) ?_
    exact j_aret X dJx4a65c_grow_92f84_59 (Or.inr ⟨_, rfl⟩) ⟨10, _, rfl, by decide, by decide, fun i hi => absurd hi (Nat.not_lt_zero _)⟩ (fun _ h => h)
abbrev rm_AGr : Room := { frames := 4, cells := 1, slots := 600, locals := 129 }
theorem c_AL_grow (hl9 : l.stackTraces = false) (M : jMem) (h : Nat) {b ad cap : Nat} {f : Nat → Option Nat} {mc : Int32} (hb : B ≤ b) (hM : M b = some (listC mc ad (Int32.ofNat cap))) (hA : 0 < cap → M ad = some (objs D cap f)) (hc : cap < 400) (hcase : (cap = 0 ∧ ad = t0) ∨ 0 < cap) (hel : ∀ i, i < cap → ∀ y, f i = some y → ∃ fs, M y = some (.inr (2, fs))) :
    jCf l D B t0 yJx4a65c_grow_d5877 cJx4a65c_grow_d5877 1 (some (.array (.object "java/lang/Object"))) rm_AGr [.ref b] M (fun k => k = h) (some (0, 0, ())) (fun _ => some (.ref h)) (fun (_ : Unit) M9 => grown D M b h mc cap f M9) (fun k => k = h + 1) := by
  refine jC_of hl9 (me_Jx4a65c_grow_d5877).1 [(0, .ref b)] ⟨by decide +kernel, Nat.le_of_ble_eq_true rfl⟩ rfl (fun κ hl hD hB hT X htab hin => ?_)
  subst hl hD hB hT
  have X : jX κ RJx4a65c cJx4a65c_grow_d5877 1 (some (.array (.object "java/lang/Object"))) := X
  refine j_eq (o1 := jbin0 (some ((0 : Nat), (0 : Int32), ())) (fun v _ => some (0, v, ()))) rfl ?_
  refine j_aload_n X 0 rfl dJx4a65c_grow_d5877_0 rfl ?_
  refine j_aload_n X 0 rfl dJx4a65c_grow_d5877_1 rfl ?_
  refine j_getf X 2 cf_Jx4a65c (by decide) fl_Jx4a65c_48 dJx4a65c_grow_d5877_2 hM rfl ?_
  refine j_iconst X (1 : Int32) dJx4a65c_grow_d5877_5 (by rfl) ?_
  refine j_iadd X dJx4a65c_grow_d5877_6 ?_
  refine j_call0V X 0 0 (c_AL_growi X.tr M h hb hM hA hc hcase hel) me_Jx4a65c_grow_92f84 ml_Jx4a65c_69 iv_Jx4a65c_grow_92f84 cf_Jx4a65c dJx4a65c_grow_d5877_7 hM (rest := []) rfl rfl (by decide) (by decide) (Nat.le_of_ble_eq_true rfl) (fun v S' M' hM' => ?_)
  exact j_aret X dJx4a65c_grow_d5877_10 (Or.inr ⟨_, rfl⟩) hM' (fun _ h => h)
/-- what a list has after an addition -/
def added (D : va_G) (M : jMem) (b e h : Nat) (mc : Int32) (ad n cap : Nat) (f : Nat → Option Nat) (M9 : jMem) : Prop :=
  ∃ ad' cap' g, M9 = jUp (jUp M ad' (objs D cap' g)) b (listC mc ad' (Int32.ofNat (n + 1))) ∧ (ad' = ad ∧ cap' = cap ∨ ad' = h) ∧ n < cap' ∧ cap' ≤ 600 ∧ (∀ i, i < n → g i = f i) ∧ g n = some e
theorem jUp_comm {M : jMem} {a c : Nat} {e e' : va_E} (h : a ≠ c) : jUp (jUp M a e) c e' = jUp (jUp M c e') a e := by
  funext q
  unfold jUp
  by_cases h1 : q = a
  · subst h1
    simp [h]
  · simp [h1]
theorem n32_succ {n : Nat} : Int32.ofNat n + 1 = Int32.ofNat (n + 1) := by
  rw [Int32.ofNat_add]
  rfl
theorem n32_inj {a b : Nat} (ha : a ≤ 100000) (hb : b ≤ 100000) (h : Int32.ofNat a = Int32.ofNat b) : a = b := by
  have := congrArg Int32.toNatClampNeg h
  rwa [n32_cl ha, n32_cl hb] at this
theorem n32_in {n c : Nat} (hn : n ≤ 100000) (h : n < c) : vp_in (Int32.ofNat n) c := fun q => q.elim (n32_nn hn) (fun q => by rw [n32_cl hn] at q; omega)
abbrev rm_AD3 : Room := { frames := 5, cells := 1, slots := 600, locals := 149 }
theorem c_AL_add3 (hl9 : l.stackTraces = false) (M : jMem) (h : Nat) {b e ad n cap : Nat} {f : Nat → Option Nat} {es : List Value} {mc : Int32} (hb : B ≤ b) (hM : M b = some (listC mc ad (Int32.ofNat n))) (hA : 0 < cap → M ad = some (objs D cap f)) (hE : M e = some (.inr (2, es))) (hn : n ≤ cap) (hc : n < 400 ∧ cap ≤ 600) (hcase : (cap = 0 ∧ ad = t0) ∨ (0 < cap ∧ B ≤ ad)) (hel : ∀ i, i < n → ∀ y, f i = some y → ∃ fs, M y = some (.inr (2, fs))) :
    jCf l D B t0 yJx4a65c_add_72be8 cJx4a65c_add_72be8 4 none rm_AD3 [.ref b, .ref e, .ref ad, .int (Int32.ofNat n)] M (fun k => k = h) (some (0, 0, ())) rvV (fun (_ : Unit) M9 => added D M b e h mc ad n cap f M9) (fun k => h ≤ k) := by
  refine jC_of hl9 (me_Jx4a65c_add_72be8).1 [(0, .ref b), (1, .ref e), (2, .ref ad), (3, .int (Int32.ofNat n))] ⟨by decide +kernel, Nat.le_of_ble_eq_true rfl⟩ rfl (fun κ hl hD hB hT X htab hin => ?_)
  subst hl hD hB hT
  have X : jX κ RJx4a65c cJx4a65c_add_72be8 4 none := X
  refine j_size X (fun h' hz hlt hBh => ?_)
  have hz : h' = h := hz
  subst hz
  have hbh : b ≠ h' := Nat.ne_of_lt (hlt _ _ hM)
  have heh : e ≠ h' := Nat.ne_of_lt (hlt _ _ hE)
  have hbad : ad ≠ b := fun q => by
    rcases hcase with h9 | h9
    · have := X.k.1.2.2.2.2.1
      omega
    · have h8 := hA h9.1
      rw [q, hM] at h8
      cases h8
  have hbe : e ≠ b := fun q => by
    rw [q, hM] at hE
    cases hE
  have tail : ∀ (M1 : jMem) (ad1 cap1 : Nat) (g : Nat → Option Nat) (z1 : Nat → Prop) (bc1 bs1 : Nat), kB κ ≤ ad1 → ad1 ≠ b → M1 b = some (listC mc ad1 (Int32.ofNat n)) → M1 ad1 = some (objs (kD κ) cap1 g) → M1 e = some (.inr (2, es)) → n < cap1 → (∀ k, z1 k → h' ≤ k) →
      added (kD κ) M b e h' mc ad n cap f (jUp (jUp M1 ad1 (objs (kD κ) cap1 (va_up g n (some e)))) b (listC mc ad1 (Int32.ofNat (n + 1)))) →
      J κ 4 rm_AD3 (jQf κ rm_AD3 rvV (fun (_ : Unit) M9 => added (kD κ) M b e h' mc ad n cap f M9) (fun k => h' ≤ k)) (some (0, 0, ())) M1 z1 bc1 bs1 [(0, .ref b), (1, .ref e), (2, .ref ad1), (3, .int (Int32.ofNat n))] 11 [] := by
    intro M1 ad1 cap1 g z1 bc1 bs1 i1 i2 i3 i4 i5 i6 i7 i8
    refine j_aload_n X 2 rfl dJx4a65c_add_72be8_11 rfl ?_
    refine j_iload_n X 3 rfl dJx4a65c_add_72be8_12 rfl ?_
    refine j_aload_n X 1 rfl dJx4a65c_add_72be8_13 rfl ?_
    refine j_aastO X 9 cf_X1 rfl ca_X1_Obj (n32_in (by omega) i6) dJx4a65c_add_72be8_14 i1 i4 i5 ?_
    rw [n32_cl (k := n) (by omega)]
    refine j_aload_n X 0 rfl dJx4a65c_add_72be8_15 rfl ?_
    refine j_iload_n X 3 rfl dJx4a65c_add_72be8_16 rfl ?_
    refine j_iconst X (1 : Int32) dJx4a65c_add_72be8_17 (by rfl) ?_
    refine j_iadd X dJx4a65c_add_72be8_18 ?_
    refine j_putf X 2 cf_Jx4a65c (by decide) fl_Jx4a65c_48 dJx4a65c_add_72be8_19 rfl rfl rfl hb ((jUp_ne (Ne.symm i2)).trans i3) (Nat.le_of_ble_eq_true rfl) ?_
    rw [n32_succ]
    exact j_vret X dJx4a65c_add_72be8_22 i8 i7
  refine j_iload_n X 3 rfl dJx4a65c_add_72be8_0 rfl ?_
  refine j_aload_n X 2 rfl dJx4a65c_add_72be8_1 rfl ?_
  refine j_alenL X hA (hcase.imp id (fun q => q.1)) dJx4a65c_add_72be8_2 ?_
  refine jh_icmp_ne X 11 dJx4a65c_add_72be8_3 (by decide) (fun hne => ?_) (fun heq => ?_)
  · have hlt1 : n < cap := by
      rcases Nat.lt_or_ge n cap with q | q
      · exact q
      · exact absurd (congrArg Int32.ofNat (Nat.le_antisymm hn q)) hne
    have hBa : kB κ ≤ ad := hcase.elim (fun q => absurd hlt1 (by omega)) (fun q => q.2)
    refine tail M ad cap f _ _ _ hBa hbad hM (hA (by omega)) hE hlt1 (fun k hk => by rw [hk]; exact Nat.le_refl _) ⟨ad, cap, _, rfl, Or.inl ⟨rfl, rfl⟩, hlt1, hc.2, fun i hi => ?_, ?_⟩
    · unfold va_up
      simp [Nat.ne_of_lt hi]
    · unfold va_up
      simp
  · have hnc : n = cap := n32_inj (by omega) (by omega) heq
    subst hnc
    refine j_eq (o1 := jbin0 (some ((0 : Nat), (0 : Int32), ())) (fun _ _ => some (0, 0, ()))) rfl ?_
    refine j_aload_n X 0 rfl dJx4a65c_add_72be8_6 rfl ?_
    refine j_call0V X 0 0 (c_AL_grow X.tr M h' hb hM hA hc.1 (hcase.imp id (fun q => q.1)) hel) me_Jx4a65c_grow_d5877 ml_Jx4a65c_129 iv_Jx4a65c_grow_d5877 cf_Jx4a65c dJx4a65c_add_72be8_7 hM (rest := []) rfl rfl (by decide) (by decide) (Nat.le_of_ble_eq_true rfl) (fun v S' M' hM' => ?_)
    obtain ⟨cap', g, rfl, q1, q2, q3⟩ := hM'
    refine j_astore_n X [(2, .ref h'), (0, .ref b), (1, .ref e), (3, .int (Int32.ofNat n))] dJx4a65c_add_72be8_10 rfl (by decide) rfl ?_
    refine j_lv [1, 2, 0, 3] rfl ?_
    refine tail _ h' cap' g _ _ _ hBh (Ne.symm hbh) jUp_eq ((jUp_ne (Ne.symm hbh)).trans jUp_eq) ((jUp_ne hbe).trans ((jUp_ne heh).trans hE)) q1 (fun k hk => by rw [hk]; exact Nat.le_succ _) ⟨h', cap', va_up g n (some e), ?_, Or.inr rfl, q1, q2, fun i hi => ?_, ?_⟩
    · rw [jUp_comm (a := b) (c := h') hbh, jUp_up, jUp_up]
    · unfold va_up
      simp [Nat.ne_of_lt hi, q3 i hi]
    · unfold va_up
      simp
abbrev rm_ADD : Room := { frames := 6, cells := 1, slots := 600, locals := 172 }
theorem c_AL_add (hl9 : l.stackTraces = false) (M : jMem) (h : Nat) {b e ad n cap : Nat} {f : Nat → Option Nat} {es : List Value} {mc : Int32} (hb : B ≤ b) (hM : M b = some (listC mc ad (Int32.ofNat n))) (hA : 0 < cap → M ad = some (objs D cap f)) (hE : M e = some (.inr (2, es))) (hn : n ≤ cap) (hc : n < 400 ∧ cap ≤ 600) (hcase : (cap = 0 ∧ ad = t0) ∨ (0 < cap ∧ B ≤ ad)) (hel : ∀ i, i < n → ∀ y, f i = some y → ∃ fs, M y = some (.inr (2, fs))) :
    jCf l D B t0 yJx4a65c_add_9ea2d cJx4a65c_add_9ea2d 2 (some .boolean) rm_ADD [.ref b, .ref e] M (fun k => k = h) (some (0, 1, ())) rvI (fun (_ : Unit) M9 => added D M b e h (mc + 1) ad n cap f M9) (fun k => h ≤ k) := by
  refine jC_of hl9 (me_Jx4a65c_add_9ea2d).1 [(0, .ref b), (1, .ref e)] ⟨by decide +kernel, Nat.le_of_ble_eq_true rfl⟩ rfl (fun κ hl hD hB hT X htab hin => ?_)
  subst hl hD hB hT
  have X : jX κ RJx4a65c cJx4a65c_add_9ea2d 2 (some .boolean) := X
  have hbad : ad ≠ b := fun q => by
    rcases hcase with h9 | h9
    · have := X.k.1.2.2.2.2.1
      omega
    · have h8 := hA h9.1
      rw [q, hM] at h8
      cases h8
  have hbe : e ≠ b := fun q => by
    rw [q, hM] at hE
    cases hE
  refine j_eq (o1 := jbin0 (some ((0 : Nat), (0 : Int32), ())) (fun _ _ => chk (isb 1) (some (0, 1, ())))) rfl ?_
  refine j_aload_n X 0 rfl dJx4a65c_add_9ea2d_0 rfl ?_
  refine j_dup X dJx4a65c_add_9ea2d_1 rfl ?_
  refine j_getS X 0 cf_Jx4a65c (by decide) fl_AL_63 sf_AL dJx4a65c_add_9ea2d_2 hM rfl ?_
  refine j_iconst X (1 : Int32) dJx4a65c_add_9ea2d_5 (by rfl) ?_
  refine j_iadd X dJx4a65c_add_9ea2d_6 ?_
  refine j_putS X 0 cf_Jx4a65c (by decide) fl_AL_63 sf_AL dJx4a65c_add_9ea2d_7 rfl rfl rfl hb hM (Nat.le_of_ble_eq_true rfl) ?_
  have hM1 : (jUp M b (listC (mc + 1) ad (Int32.ofNat n))) b = some (listC (mc + 1) ad (Int32.ofNat n)) := jUp_eq
  refine j_aload_n X 0 rfl dJx4a65c_add_9ea2d_10 rfl ?_
  refine j_aload_n X 1 rfl dJx4a65c_add_9ea2d_11 rfl ?_
  refine j_aload_n X 0 rfl dJx4a65c_add_9ea2d_12 rfl ?_
  refine j_getf X 1 cf_Jx4a65c (by decide) fl_Jx4a65c_9 dJx4a65c_add_9ea2d_13 hM1 rfl ?_
  refine j_aload_n X 0 rfl dJx4a65c_add_9ea2d_16 rfl ?_
  refine j_getf X 2 cf_Jx4a65c (by decide) fl_Jx4a65c_48 dJx4a65c_add_9ea2d_17 hM1 rfl ?_
  refine j_call0V X 0 0 (c_AL_add3 X.tr _ h hb hM1 (fun h9 => (jUp_ne hbad).trans (hA h9)) ((jUp_ne hbe).trans hE) hn hc hcase (fun i hi y hy => (hel i hi y hy).imp fun fs hfs => (jUp_ne (fun q => by
      rw [q, hM] at hfs
      cases hfs)).trans hfs)) me_Jx4a65c_add_72be8 ml_Jx4a65c_131 iv_Jx4a65c_add_72be8 cf_Jx4a65c dJx4a65c_add_9ea2d_20 hM1 (rest := []) rfl rfl (by decide) (by decide) (Nat.le_of_ble_eq_true rfl) (fun v S' M' hM' => ?_)
  obtain ⟨ad', cap', g, rfl, q1, q2⟩ := hM'
  refine j_iconst X (1 : Int32) dJx4a65c_add_9ea2d_23 (by rfl) ?_
  refine j_zret X dJx4a65c_add_9ea2d_24 ⟨ad', cap', g, ?_, q1, q2⟩ (fun _ h => h)
  funext q
  unfold jUp
  by_cases h1 : q = b <;> simp [h1]
end LSU
