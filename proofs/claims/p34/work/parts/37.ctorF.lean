section CTF
theorem jCf.known {l : Launch} {D : va_G} {B t0 : Nat} {y : MethodName} {cc : ByteArray} {nL : Nat} {ret : Option FieldType} {R : Room} {av : List Value} {M : jMem} {z z' : Nat → Prop} {σ : Type} {o : Option (jR σ)} {rv : Int32 → Option Value} {PM : σ → jMem → Prop} {v : Int32} {S : σ} (h : jCf l D B t0 y cc nL ret R av M z o rv PM z') (ho : o = some (0, v, S)) :
    jCf l D B t0 y cc nL ret R av M z (some (0, v, ())) rv (fun (_ : Unit) M9 => PM S M9) z' := fun r hr => by
  cases hr
  exact h _ ho
variable {l : Launch} {D : va_G} {B t0 : Nat}
theorem c_AC_init (hl9 : l.stackTraces = false) (M : jMem) (z : Nat → Prop) (b : Nat) : jCf l D B t0 yJxa1e45_init_da8c8 cJxa1e45_init_da8c8 1 none { frames := 1, cells := 0, slots := 0, locals := 16 } [.ref b] M z (some (0, 0, ())) rvV (fun (_ : Unit) M9 => M9 = M) z := by
  refine jC_of hl9 (me_Jxa1e45_init_da8c8).1 [(0, .ref b)] ⟨by decide +kernel, Nat.le_of_ble_eq_true rfl⟩ rfl (fun κ hl hD hB hT X htab hin => ?_)
  subst hl hD hB hT
  have X : jX κ RJxa1e45 cJxa1e45_init_da8c8 1 none := X
  refine j_aload_n X 0 rfl dJxa1e45_init_da8c8_0 rfl ?_
  refine j_objInit X ml_Jxa1e45_1 im_objInit co_objInit dJxa1e45_init_da8c8_1 ⟨Nat.le_of_ble_eq_true rfl, Nat.le_of_ble_eq_true rfl⟩ ?_
  exact j_vret X dJxa1e45_init_da8c8_4 rfl (fun _ h => h)
theorem c_ABL_init (hl9 : l.stackTraces = false) (M : jMem) (z : Nat → Prop) (b : Nat) (hb : B ≤ b) (hM : M b = some (.inr (0, [.int 0, .null, .int 0]))) : jCf l D B t0 yJxc12de_init_da8c8 cJxc12de_init_da8c8 1 none { frames := 2, cells := 0, slots := 0, locals := 40 } [.ref b] M z (some (0, 0, ())) rvV (fun (_ : Unit) M9 => M9 = jUp M b (.inr (0, [.int 0, .null, .int 0]))) z := by
  refine jC_of hl9 (me_Jxc12de_init_da8c8).1 [(0, .ref b)] ⟨by decide +kernel, Nat.le_of_ble_eq_true rfl⟩ rfl (fun κ hl hD hB hT X htab hin => ?_)
  subst hl hD hB hT
  have X : jX κ RJxc12de cJxc12de_init_da8c8 1 none := X
  refine j_eq (o1 := jbin0 (some ((0 : Nat), (0 : Int32), ())) (fun _ _ => some (0, 0, ()))) rfl ?_
  refine j_aload_n X 0 rfl dJxc12de_init_da8c8_0 rfl ?_
  refine j_call0I X 0 0 (c_AC_init X.tr M z b) me_Jxa1e45_init_da8c8 ml_Jxc12de_1 ii_Jxa1e45_init_da8c8 dJxc12de_init_da8c8_1 (rest := []) rfl rfl (by decide) (by decide) (Nat.le_of_ble_eq_true rfl) (fun v S' M' hM' => ?_)
  subst hM'
  refine j_aload_n X 0 rfl dJxc12de_init_da8c8_4 rfl ?_
  refine j_iconst X (0 : Int32) dJxc12de_init_da8c8_5 (by rfl) ?_
  refine j_putf X 0 cf_Jx4a65c (by decide) fl_Jxc12de_7 dJxc12de_init_da8c8_6 rfl rfl rfl hb hM (Nat.le_of_ble_eq_true rfl) ?_
  exact j_vret X dJxc12de_init_da8c8_9 rfl (fun _ h => h)
theorem c_AL_init (hl9 : l.stackTraces = false) (M : jMem) (z : Nat → Prop) (b : Nat) (hb : B ≤ b) (hM : M b = some (.inr (0, [.int 0, .null, .int 0]))) : jCf l D B t0 yJx4a65c_init_da8c8 cJx4a65c_init_da8c8 1 none { frames := 3, cells := 0, slots := 0, locals := 70 } [.ref b] M z (some (0, 0, ())) rvV (fun (_ : Unit) M9 => M9 = jUp M b (listC 0 t0 0)) z := by
  refine jC_of hl9 (me_Jx4a65c_init_da8c8).1 [(0, .ref b)] ⟨by decide +kernel, Nat.le_of_ble_eq_true rfl⟩ rfl (fun κ hl hD hB hT X htab hin => ?_)
  subst hl hD hB hT
  have X : jX κ RJx4a65c cJx4a65c_init_da8c8 1 none := X
  refine j_eq (o1 := jbin0 (some ((0 : Nat), (0 : Int32), ())) (fun _ _ => some (0, 0, ()))) rfl ?_
  refine j_aload_n X 0 rfl dJx4a65c_init_da8c8_0 rfl ?_
  refine j_call0I X 0 0 (c_ABL_init X.tr M z b hb hM) me_Jxc12de_init_da8c8 ml_Jx4a65c_1 ii_Jxc12de_init_da8c8 dJx4a65c_init_da8c8_1 (rest := []) rfl rfl (by decide) (by decide) (Nat.le_of_ble_eq_true rfl) (fun v S' M' hM' => ?_)
  subst hM'
  refine j_aload_n X 0 rfl dJx4a65c_init_da8c8_4 rfl ?_
  refine j_gets X X.k.2.2.2.2.2.1.1 fl_AL_39 dJx4a65c_init_da8c8_5 ?_
  refine j_putf X 1 cf_Jx4a65c (by decide) fl_Jx4a65c_9 dJx4a65c_init_da8c8_8 rfl rfl rfl hb jUp_eq (Nat.le_of_ble_eq_true rfl) ?_
  exact j_vret X dJx4a65c_init_da8c8_11 jUp_up (fun _ h => h)
/-- the cells of a stretch, by S -/
def KN (D : va_G) (B : Nat) (S : jS) (lo hi : Nat) (M : jMem) : Prop := ∀ k, lo ≤ k → k < hi → kd k ≠ 0 → M (B + k) = some (cellK D B k (kd k) (S k))
theorem KN.of {S : jS} {lo w : Nat} {M : jMem} : KN D B S lo (lo + w) (memG lo (lo + w) D B S M) := fun k h1 h2 h3 => by
  unfold memG
  rw [Nat.add_sub_cancel_left, if_pos ⟨by omega, by omega, h3⟩]
theorem memG_old {S : jS} {lo w : Nat} {M : jMem} {a : Nat} (h : a < B + lo ∨ B + (lo + w) ≤ a) : memG lo (lo + w) D B S M a = M a := memG_out (by omega)
theorem KN.up {S : jS} {lo hi a : Nat} {M : jMem} {e : va_E} (h : KN D B S lo hi M) (ha : a < B + lo ∨ B + hi ≤ a) : KN D B S lo hi (jUp M a e) := fun k h1 h2 h3 => (jUp_ne (by omega)).trans (h k h1 h2 h3)
theorem KN.mem {S S1 : jS} {lo hi lo1 w : Nat} {M : jMem} (h : KN D B S lo hi M) (ha : hi ≤ lo1 ∨ lo1 + w ≤ lo) : KN D B S lo hi (memG lo1 (lo1 + w) D B S1 M) := fun k h1 h2 h3 => (memG_old (by omega)).trans (h k h1 h2 h3)
theorem KN.join {S : jS} {lo mid hi : Nat} {M : jMem} (h : KN D B S lo mid M) (h1 : KN D B S mid hi M) : KN D B S lo hi M := fun k g1 g2 g3 => by
  rcases Nat.lt_or_ge k mid with q | q
  · exact h k g1 q g3
  · exact h1 k q g2 g3
theorem KN.eq {S S1 : jS} {lo hi : Nat} {M : jMem} (h : KN D B S lo hi M) (he : ∀ k, lo ≤ k → k < hi → S k = S1 k) : KN D B S1 lo hi M := fun k g1 g2 g3 => by rw [h k g1 g2 g3, he k g1 g2]
theorem KN.one {S : jS} {k : Nat} {M : jMem} {e : va_E} (h : M (B + k) = some e) (hc : cellK D B k (kd k) (S k) = e) : KN D B S k (k + 1) M := fun j g1 g2 _ => by
  have : j = k := by omega
  subst this
  rw [h, hc]
abbrev txts (D : va_G) (f : Nat → Option Nat) : va_E := .inl (D.1 25, 6, .inr (.inr (.inr (.inr f))))
/-- the raw memory of a new Audiences -/
def sA (SG : jS) : jS := fun k => if k < 30 then SG k else fun _ => 0
abbrev rm_X0_init : Room := { frames := 5, cells := 60, slots := 1400, locals := 140 }
/-- the loop's invariant -/
def AI (D : va_G) (B : Nat) (SG : jS) (M : jMem) (i : Nat) (Mx : jMem) : Prop :=
  KN D B (sA SG) 27 (37 + 4 * i) Mx ∧ Mx (B + 24) = some (.inr (1, [.ref (B + 25), .ref (B + 26), .ref (B + 27), .ref (B + 30), .ref (B + 31), .ref (B + 32), .ref (B + 33)])) ∧
  Mx (B + 25) = some (txts D (fun j => if j < i then some (B + (37 + 4 * j)) else none)) ∧ Mx (B + 26) = some (txts D (fun j => if j < i then some (B + (39 + 4 * j)) else none)) ∧ ∀ a, a < B + 24 → Mx a = M a
theorem va_up_if {g : Nat → Nat} {i : Nat} : va_up (fun j => if j < i then some (g j) else none) i (some (g i)) = fun j => if j < i + 1 then some (g j) else none := by
  funext j
  unfold va_up
  by_cases h : j = i
  · subst h
    simp
  · by_cases h1 : j < i
    · simp [h, h1, Nat.lt_succ_of_lt h1]
    · simp [h, h1, show ¬ j < i + 1 by omega]
theorem n32_lt6 {i n : Nat} (hi : i ≤ 100000) (hn : n ≤ 100000) : Int32.ofNat n ≤ Int32.ofNat i ↔ n ≤ i := by
  rw [Int32.le_iff_toInt_le, Int32.toInt_ofNat_of_lt (by omega), Int32.toInt_ofNat_of_lt (by omega)]
  omega
set_option maxHeartbeats 4000000 in
set_option maxRecDepth 100000 in
theorem c_X0_loop {κ : jCx} {M : jMem} {SG : jS} (X : jX κ RX0 cX0_init 2 none) : ∀ n i : Nat, i + n = 6 → ∀ Mx, AI (kD κ) (kB κ) SG M i Mx → ∀ bc bs, 4 * n ≤ bc → 124 * n ≤ bs →
    (∀ Mx, AI (kD κ) (kB κ) SG M 6 Mx → J κ 2 rm_X0_init (jQf κ rm_X0_init rvV (fun (_ : Unit) M9 => M9 = memG 24 (24 + 37) (kD κ) (kB κ) (sA SG) M) (fun n => n = kB κ + 61)) (some (0, 0, ())) Mx (fun n => n = kB κ + 61) 0 0 [(0, .ref (kB κ + 24)), (1, .int 6)] 113 []) →
    J κ 2 rm_X0_init (jQf κ rm_X0_init rvV (fun (_ : Unit) M9 => M9 = memG 24 (24 + 37) (kD κ) (kB κ) (sA SG) M) (fun n => n = kB κ + 61)) (some (0, 0, ())) Mx (fun n => n = kB κ + (37 + 4 * i)) bc bs [(0, .ref (kB κ + 24)), (1, .int (Int32.ofNat i))] 75 []
  | 0, i, hi, Mx, hI, bc, bs, h1, h2, kk => by
    have : i = 6 := by omega
    subst this
    refine j_iload_n X 1 rfl dX0_init_75 rfl ?_
    refine j_bipush X (6 : Int32) dX0_init_76 (by rfl) ?_
    refine jh_icmp_ge X 113 dX0_init_78 (by decide) (fun _ => ?_) (fun h => absurd (by decide) h)
    exact j_bud (Nat.zero_le _) (Nat.zero_le _) (kk Mx hI)
  | n + 1, i, hi, Mx, ⟨i1, i2, i3, i4, i5⟩, bc, bs, h1, h2, kk => by
    refine j_iload_n X 1 rfl dX0_init_75 rfl ?_
    refine j_bipush X (6 : Int32) dX0_init_76 (by rfl) ?_
    refine jh_icmp_ge X 113 dX0_init_78 (by decide) (fun h => absurd ((n32_lt6 (i := i) (n := 6) (by omega) (by omega)).mp h) (by omega)) (fun _ => ?_)
    have hin : vp_in (Int32.ofNat i) 6 := n32_in (by omega) (by omega)
    have hcl : (Int32.ofNat i).toNatClampNeg = i := n32_cl (by omega)
    -- the draft
    refine j_bud (bc1 := 4 * n + 2 + 1 + 1) (bs1 := 124 * n + 62 + 60 + 2) (by omega) (by omega) ?_
    refine j_aload_n X 0 rfl dX0_init_81 rfl ?_
    refine j_getf X 0 cf_X0 (by decide) fl_X0_11 dX0_init_82 i2 rfl ?_
    refine j_iload_n X 1 rfl dX0_init_85 rfl ?_
    refine j_new X (bc1 := 4 * n + 2 + 1) (bs1 := 124 * n + 62 + 60) cf_X8 cl_X0_9 ⟨it_X8, in_X8⟩ hf_X8 dX0_init_86 ⟨by omega, by omega⟩ ?_
    refine j_zle (z1 := fun n => n = kB κ + (37 + 4 * i + 1)) (fun n9 hn9 => by have hn9 : n9 = _ := hn9; omega) ?_
    refine j_dup X dX0_init_89 rfl ?_
    refine j_eq (o1 := jbin0 (some ((0 : Nat), (0 : Int32), ())) (fun _ _ => some (0, 0, ()))) rfl ?_
    refine j_call0IN X (4 * n + 2) (124 * n + 62) (c_X8_init X.tr _ (37 + 4 * i) (isText_d (by omega)) jUp_eq) me_X8_init mn_X0_50 ii_X8_init dX0_init_90 (rest := [.ref (kB κ + (37 + 4 * i)), .int (Int32.ofNat i), .ref (kB κ + 25)]) rfl rfl (by decide) ⟨by show 1 + (4 * n + 2) ≤ _; omega, by show 60 + (124 * n + 62) ≤ _; omega⟩ (Nat.le_of_ble_eq_true rfl) (fun v S' M' hM' => ?_)
    subst hM'
    have m25 : memG (37 + 4 * i) (37 + 4 * i + 2) (kD κ) (kB κ) zS (jUp Mx (kB κ + (37 + 4 * i)) (.inr (9, [.null, .int 0]))) (kB κ + 25) = _ := (memG_old (by omega)).trans ((jUp_ne (by omega)).trans i3)
    have mT : memG (37 + 4 * i) (37 + 4 * i + 2) (kD κ) (kB κ) zS (jUp Mx (kB κ + (37 + 4 * i)) (.inr (9, [.null, .int 0]))) (kB κ + (37 + 4 * i)) = some (.inr (9, [.ref (kB κ + (37 + 4 * i + 1)), .int 0])) := by
      rw [KN.of (37 + 4 * i) (Nat.le_refl _) (by omega) (by rw [(kText (isText_d (i := i) (by omega))).1.2.2.1]; decide), (kText (isText_d (i := i) (by omega))).1.2.2.1]
      rfl
    refine j_aast X 5 cf_X8 rfl hin dX0_init_93 (Nat.le_add_right _ _) m25 mT ?_
    rw [hcl, va_up_if (g := fun j => kB κ + (37 + 4 * j))]
    have A1 : KN (kD κ) (kB κ) (sA SG) 27 (37 + 4 * i + 2) (jUp (memG (37 + 4 * i) (37 + 4 * i + 2) (kD κ) (kB κ) zS (jUp Mx (kB κ + (37 + 4 * i)) (.inr (9, [.null, .int 0])))) (kB κ + 25) (txts (kD κ) (fun j => if j < i + 1 then some (kB κ + (37 + 4 * j)) else none))) := (((i1.up (by omega)).mem (by omega)).join (KN.of.eq (fun k g1 g2 => by unfold sA; rw [if_neg (by omega)]))).up (by omega)
    have A2 := (jUp_ne (M := memG (37 + 4 * i) (37 + 4 * i + 2) (kD κ) (kB κ) zS (jUp Mx (kB κ + (37 + 4 * i)) (.inr (9, [.null, .int 0])))) (a := kB κ + 25) (q := kB κ + 24) (e := txts (kD κ) (fun j => if j < i + 1 then some (kB κ + (37 + 4 * j)) else none)) (by omega)).trans ((memG_old (by omega)).trans ((jUp_ne (by omega)).trans i2))
    have A3 := jUp_eq (M := memG (37 + 4 * i) (37 + 4 * i + 2) (kD κ) (kB κ) zS (jUp Mx (kB κ + (37 + 4 * i)) (.inr (9, [.null, .int 0])))) (a := kB κ + 25) (e := txts (kD κ) (fun j => if j < i + 1 then some (kB κ + (37 + 4 * j)) else none))
    have A4 := (jUp_ne (M := memG (37 + 4 * i) (37 + 4 * i + 2) (kD κ) (kB κ) zS (jUp Mx (kB κ + (37 + 4 * i)) (.inr (9, [.null, .int 0])))) (a := kB κ + 25) (q := kB κ + 26) (e := txts (kD κ) (fun j => if j < i + 1 then some (kB κ + (37 + 4 * j)) else none)) (by omega)).trans ((memG_old (by omega)).trans ((jUp_ne (by omega)).trans i4))
    have A5 : ∀ a, a < kB κ + 24 → jUp (memG (37 + 4 * i) (37 + 4 * i + 2) (kD κ) (kB κ) zS (jUp Mx (kB κ + (37 + 4 * i)) (.inr (9, [.null, .int 0])))) (kB κ + 25) (txts (kD κ) (fun j => if j < i + 1 then some (kB κ + (37 + 4 * j)) else none)) a = M a := fun a ha => (jUp_ne (by omega)).trans ((memG_old (by omega)).trans ((jUp_ne (by omega)).trans (i5 a ha)))
    generalize jUp (memG (37 + 4 * i) (37 + 4 * i + 2) (kD κ) (kB κ) zS (jUp Mx (kB κ + (37 + 4 * i)) (.inr (9, [.null, .int 0])))) (kB κ + 25) (txts (kD κ) (fun j => if j < i + 1 then some (kB κ + (37 + 4 * j)) else none)) = My at A1 A2 A3 A4 A5 ⊢
    -- the rule text
    refine j_zle (z1 := fun n => n = kB κ + (39 + 4 * i)) (fun n9 hn9 => by have hn9 : n9 = _ := hn9; omega) ?_
    refine j_aload_n X 0 rfl dX0_init_94 rfl ?_
    refine j_getf X 1 cf_X0 (by decide) fl_X0_17 dX0_init_95 A2 rfl ?_
    refine j_iload_n X 1 rfl dX0_init_98 rfl ?_
    refine j_new X (bc1 := 4 * n + 1) (bs1 := 124 * n + 60) cf_X8 cl_X0_9 ⟨it_X8, in_X8⟩ hf_X8 dX0_init_99 ⟨by omega, by omega⟩ ?_
    refine j_zle (z1 := fun n => n = kB κ + (39 + 4 * i + 1)) (fun n9 hn9 => by have hn9 : n9 = _ := hn9; omega) ?_
    refine j_dup X dX0_init_102 rfl ?_
    refine j_eq (o1 := jbin0 (some ((0 : Nat), (0 : Int32), ())) (fun _ _ => some (0, 0, ()))) rfl ?_
    refine j_call0IN X (4 * n) (124 * n) (c_X8_init X.tr _ (39 + 4 * i) (isText_r (by omega)) jUp_eq) me_X8_init mn_X0_50 ii_X8_init dX0_init_103 (rest := [.ref (kB κ + (39 + 4 * i)), .int (Int32.ofNat i), .ref (kB κ + 26)]) rfl rfl (by decide) ⟨by show 1 + (4 * n) ≤ _; omega, by show 60 + (124 * n) ≤ _; omega⟩ (Nat.le_of_ble_eq_true rfl) (fun v S' M' hM' => ?_)
    subst hM'
    have m26 : memG (39 + 4 * i) (39 + 4 * i + 2) (kD κ) (kB κ) zS (jUp My (kB κ + (39 + 4 * i)) (.inr (9, [.null, .int 0]))) (kB κ + 26) = _ := (memG_old (by omega)).trans ((jUp_ne (by omega)).trans A4)
    have mT : memG (39 + 4 * i) (39 + 4 * i + 2) (kD κ) (kB κ) zS (jUp My (kB κ + (39 + 4 * i)) (.inr (9, [.null, .int 0]))) (kB κ + (39 + 4 * i)) = some (.inr (9, [.ref (kB κ + (39 + 4 * i + 1)), .int 0])) := by
      rw [KN.of (39 + 4 * i) (Nat.le_refl _) (by omega) (by rw [(kText (isText_r (i := i) (by omega))).1.2.2.1]; decide), (kText (isText_r (i := i) (by omega))).1.2.2.1]
      rfl
    refine j_aast X 5 cf_X8 rfl hin dX0_init_106 (Nat.le_add_right _ _) m26 mT ?_
    rw [hcl, va_up_if (g := fun j => kB κ + (39 + 4 * j))]
    have B1 : KN (kD κ) (kB κ) (sA SG) 27 (37 + 4 * (i + 1)) (jUp (memG (39 + 4 * i) (39 + 4 * i + 2) (kD κ) (kB κ) zS (jUp My (kB κ + (39 + 4 * i)) (.inr (9, [.null, .int 0])))) (kB κ + 26) (txts (kD κ) (fun j => if j < i + 1 then some (kB κ + (39 + 4 * j)) else none))) := (((A1.up (by omega)).mem (by omega)).join (KN.eq (S := zS) (fun k g1 g2 g3 => KN.of k (by omega) (by omega) g3) (fun k g1 g2 => by unfold sA; rw [if_neg (by omega)]))).up (by omega)
    have B2 := (jUp_ne (M := memG (39 + 4 * i) (39 + 4 * i + 2) (kD κ) (kB κ) zS (jUp My (kB κ + (39 + 4 * i)) (.inr (9, [.null, .int 0])))) (a := kB κ + 26) (q := kB κ + 24) (e := txts (kD κ) (fun j => if j < i + 1 then some (kB κ + (39 + 4 * j)) else none)) (by omega)).trans ((memG_old (by omega)).trans ((jUp_ne (by omega)).trans A2))
    have B3 := (jUp_ne (M := memG (39 + 4 * i) (39 + 4 * i + 2) (kD κ) (kB κ) zS (jUp My (kB κ + (39 + 4 * i)) (.inr (9, [.null, .int 0])))) (a := kB κ + 26) (q := kB κ + 25) (e := txts (kD κ) (fun j => if j < i + 1 then some (kB κ + (39 + 4 * j)) else none)) (by omega)).trans ((memG_old (by omega)).trans ((jUp_ne (by omega)).trans A3))
    have B4 := jUp_eq (M := memG (39 + 4 * i) (39 + 4 * i + 2) (kD κ) (kB κ) zS (jUp My (kB κ + (39 + 4 * i)) (.inr (9, [.null, .int 0])))) (a := kB κ + 26) (e := txts (kD κ) (fun j => if j < i + 1 then some (kB κ + (39 + 4 * j)) else none))
    have B5 : ∀ a, a < kB κ + 24 → jUp (memG (39 + 4 * i) (39 + 4 * i + 2) (kD κ) (kB κ) zS (jUp My (kB κ + (39 + 4 * i)) (.inr (9, [.null, .int 0])))) (kB κ + 26) (txts (kD κ) (fun j => if j < i + 1 then some (kB κ + (39 + 4 * j)) else none)) a = M a := fun a ha => (jUp_ne (by omega)).trans ((memG_old (by omega)).trans ((jUp_ne (by omega)).trans (A5 a ha)))
    generalize jUp (memG (39 + 4 * i) (39 + 4 * i + 2) (kD κ) (kB κ) zS (jUp My (kB κ + (39 + 4 * i)) (.inr (9, [.null, .int 0])))) (kB κ + 26) (txts (kD κ) (fun j => if j < i + 1 then some (kB κ + (39 + 4 * j)) else none)) = Mz at B1 B2 B3 B4 B5 ⊢
    refine j_iinc X 1 [(1, .int (Int32.ofNat (i + 1))), (0, .ref (kB κ + 24))] dX0_init_107 rfl n32_succ (by decide) rfl ?_
    refine j_goto X 75 dX0_init_110 (by decide) ?_
    refine j_lv [1, 0] rfl ?_
    refine j_zle (z1 := fun n => n = kB κ + (37 + 4 * (i + 1))) (fun n9 hn9 => by have hn9 : n9 = _ := hn9; omega) ?_
    exact c_X0_loop X n (i + 1) (by omega) Mz ⟨B1, B2, B3, B4, B5⟩ _ _ (by omega) (by omega) kk
set_option maxHeartbeats 4000000 in
set_option maxRecDepth 100000 in
theorem c_X0_init (hl9 : l.stackTraces = false) (M : jMem) (hM : M (B + 24) = some (.inr (1, [.null, .null, .null, .null, .null, .null, .null]))) {vG : Int32} {SG : jS} (hG : f_X4_arrange zS 27 6 = some (0, vG, SG)) : jCf l D B t0 yX0_init cX0_init 2 none rm_X0_init [.ref (B + 24)] M (fun n => n = B + 25) (some (0, 0, ())) rvV (fun (_ : Unit) M9 => M9 = memG 24 (24 + 37) D B (sA SG) M) (fun n => n = B + 61) := by
  refine jC_of hl9 (me_X0_init).1 [(0, .ref (B + 24))] ⟨by decide +kernel, Nat.le_of_ble_eq_true rfl⟩ rfl (fun κ hl hD hB hT X htab hin => ?_)
  subst hl hD hB hT
  have X : jX κ RX0 cX0_init 2 none := X
  refine j_size X (fun h' hz hlt hBh => ?_)
  have hz : h' = kB κ + 25 := hz
  subst hz
  refine j_aload_n X 0 rfl dX0_init_0 rfl ?_
  refine j_objInit X ml_X0_3 im_objInit co_objInit dX0_init_1 ⟨Nat.le_of_ble_eq_true rfl, Nat.le_of_ble_eq_true rfl⟩ ?_
  refine j_aload_n X 0 rfl dX0_init_4 rfl ?_
  refine j_bipush X (6 : Int32) dX0_init_5 (by rfl) ?_
  refine j_anew X (N := 6) 5 59 1394 rfl cl_X0_9 ao_X8 (by decide) (by decide) (by decide) dX0_init_7 (by decide) ?_
  refine j_putF X 0 (hin rfl) cf_X0 (by decide) fl_X0_11 dX0_init_10 rfl rfl rfl rfl (Nat.le_add_right _ _) ((jUp_ne (by omega)).trans hM) (Nat.le_of_ble_eq_true rfl) ?_
  refine j_zle (z1 := fun n => n = kB κ + 26) (fun n9 hn9 => by have hn9 : n9 = _ := hn9; omega) ?_
  refine j_aload_n X 0 rfl dX0_init_13 rfl ?_
  refine j_bipush X (6 : Int32) dX0_init_14 (by rfl) ?_
  refine j_anew X (N := 6) 5 58 1388 rfl cl_X0_9 ao_X8 (by decide) (by decide) (by decide) dX0_init_16 (by decide) ?_
  refine j_putF X 1 (hin rfl) cf_X0 (by decide) fl_X0_17 dX0_init_19 rfl rfl rfl rfl (Nat.le_add_right _ _) ((jUp_ne (by omega)).trans jUp_eq) (Nat.le_of_ble_eq_true rfl) ?_
  refine j_zle (z1 := fun n => n = kB κ + 27) (fun n9 hn9 => by have hn9 : n9 = _ := hn9; omega) ?_
  refine j_aload_n X 0 rfl dX0_init_22 rfl ?_
  refine j_new X (bc1 := 57) (bs1 := 1386) cf_X4 cl_X0_20 ⟨it_X4, in_X4⟩ hf_X4 dX0_init_23 (by decide) ?_
  refine j_zle (z1 := fun n => n = kB κ + (27 + 1)) (fun n9 hn9 => by have hn9 : n9 = _ := hn9; omega) ?_
  refine j_dup X dX0_init_26 rfl ?_
  refine j_bipush X (6 : Int32) dX0_init_27 (by rfl) ?_
  refine j_eq (o1 := jbin0 (some ((0 : Nat), (0 : Int32), ())) (fun _ _ => some (0, 0, ()))) rfl ?_
  refine j_call0I X 55 1370 ((c_X4_init X.tr _ 27 6 isGraph_6 (6 : Int32) (by decide) (by decide) (by decide) jUp_eq).known (v := 0) (S := SG) (by rw [hG]; rfl)) me_X4_init ml_X0_22 ii_X4_init dX0_init_29 (rest := [.ref (kB κ + 27), .ref (kB κ + 24)]) rfl rfl (by decide) (by decide) (Nat.le_of_ble_eq_true rfl) (fun v S' M' hM' => ?_)
  subst hM'
  refine j_putF X 2 (hin rfl) cf_X0 (by decide) fl_X0_25 dX0_init_32 rfl rfl rfl rfl (Nat.le_add_right _ _) ((memG_old (by omega)).trans ((jUp_ne (by omega)).trans jUp_eq)) (Nat.le_of_ble_eq_true rfl) ?_
  refine j_zle (z1 := fun n => n = kB κ + 30) (fun n9 hn9 => by have hn9 : n9 = _ := hn9; omega) ?_
  refine j_aload_n X 0 rfl dX0_init_35 rfl ?_
  refine j_bipush X (6 : Int32) dX0_init_36 (by rfl) ?_
  refine j_newI X (N := 6) 54 1364 (by decide) (by decide) (by decide) aw_int dX0_init_38 (by decide) ?_
  refine j_putF X 3 (hin rfl) cf_X0 (by decide) fl_X0_29 dX0_init_40 rfl rfl rfl rfl (Nat.le_add_right _ _) ((jUp_ne (by omega)).trans jUp_eq) (Nat.le_of_ble_eq_true rfl) ?_
  refine j_zle (z1 := fun n => n = kB κ + 31) (fun n9 hn9 => by have hn9 : n9 = _ := hn9; omega) ?_
  refine j_aload_n X 0 rfl dX0_init_43 rfl ?_
  refine j_bipush X (6 : Int32) dX0_init_44 (by rfl) ?_
  refine j_newI X (N := 6) 53 1358 (by decide) (by decide) (by decide) aw_int dX0_init_46 (by decide) ?_
  refine j_putF X 4 (hin rfl) cf_X0 (by decide) fl_X0_33 dX0_init_48 rfl rfl rfl rfl (Nat.le_add_right _ _) ((jUp_ne (by omega)).trans jUp_eq) (Nat.le_of_ble_eq_true rfl) ?_
  refine j_zle (z1 := fun n => n = kB κ + 32) (fun n9 hn9 => by have hn9 : n9 = _ := hn9; omega) ?_
  refine j_aload_n X 0 rfl dX0_init_51 rfl ?_
  refine j_new X (bc1 := 52) (bs1 := 1356) cf_X7 cl_X0_36 ⟨it_X7, in_X7⟩ hf_X7 dX0_init_52 (by decide) ?_
  refine j_zle (z1 := fun n => n = kB κ + 33) (fun n9 hn9 => by have hn9 : n9 = _ := hn9; omega) ?_
  refine j_dup X dX0_init_55 rfl ?_
  refine j_eq (o1 := jbin0 (some ((0 : Nat), (0 : Int32), ())) (fun _ _ => some (0, 0, ()))) rfl ?_
  refine j_call0IN X 52 1356 (c_X7_init X.tr _ jUp_eq) me_X7_init mn_X0_38 ii_X7_init dX0_init_56 (rest := [.ref (kB κ + 32), .ref (kB κ + 24)]) rfl rfl (by decide) (by decide) (Nat.le_of_ble_eq_true rfl) (fun v S' M' hM' => ?_)
  subst hM'
  refine j_putF X 5 (hin rfl) cf_X0 (by decide) fl_X0_39 dX0_init_59 rfl rfl rfl rfl (Nat.le_add_right _ _) ((memG_old (by omega)).trans ((jUp_ne (by omega)).trans jUp_eq)) (Nat.le_of_ble_eq_true rfl) ?_
  refine j_aload_n X 0 rfl dX0_init_62 rfl ?_
  refine j_new X (bc1 := 51) (bs1 := 1352) cf_X2 cl_X0_43 ⟨it_X2, in_X2⟩ hf_X2 dX0_init_63 (by decide) ?_
  refine j_zle (z1 := fun n => n = kB κ + 34) (fun n9 hn9 => by have hn9 : n9 = _ := hn9; omega) ?_
  refine j_dup X dX0_init_66 rfl ?_
  refine j_eq (o1 := jbin0 (some ((0 : Nat), (0 : Int32), ())) (fun _ _ => some (0, 0, ()))) rfl ?_
  refine j_call0IN X 48 1325 (c_X2_init X.tr _ jUp_eq) me_X2_init mn_X0_45 ii_X2_init dX0_init_67 (rest := [.ref (kB κ + 33), .ref (kB κ + 24)]) rfl rfl (by decide) (by decide) (Nat.le_of_ble_eq_true rfl) (fun v S' M' hM' => ?_)
  subst hM'
  refine j_putF X 6 (hin rfl) cf_X0 (by decide) fl_X0_46 dX0_init_70 rfl rfl rfl rfl (Nat.le_add_right _ _) ((memG_old (by omega)).trans ((jUp_ne (by omega)).trans jUp_eq)) (Nat.le_of_ble_eq_true rfl) ?_
  refine j_iconst X (0 : Int32) dX0_init_73 (by rfl) ?_
  refine j_istore_n X [(1, .int (Int32.ofNat 0)), (0, .ref (kB κ + 24))] dX0_init_74 rfl (by decide) rfl ?_
  refine j_lv [1, 0] rfl ?_
  refine j_zle (z1 := fun n => n = kB κ + (37 + 4 * 0)) (fun n9 hn9 => by have hn9 : n9 = _ := hn9; omega) ?_
  refine c_X0_loop X 6 0 rfl _ ⟨?_, ?_, ?_, ?_, fun a ha => ?_⟩ _ _ (by decide) (by decide) (fun Mx hI => ?_)
  · refine KN.join (mid := 30) (KN.eq (S := SG) (fun k g1 g2 g3 => ?_) (fun k g1 g2 => by unfold sA; rw [if_pos g2])) (KN.join (mid := 31) (KN.one (e := .inl ((kD κ).1 20, 6, .inl (fun _ => 0))) ?_ ?_) (KN.join (mid := 32) (KN.one (e := .inl ((kD κ).1 20, 6, .inl (fun _ => 0))) ?_ ?_) (KN.join (mid := 33) (KN.eq (S := zS) (fun k g1 g2 g3 => ?_) (fun k g1 g2 => by unfold sA; rw [if_neg (by omega)])) (KN.eq (S := zS) (fun k g1 g2 g3 => ?_) (fun k g1 g2 => by unfold sA; rw [if_neg (by omega)])))))
    · (repeat (first | refine (jUp_ne (by omega)).trans ?_ | refine (memG_old (by omega)).trans ?_))
      exact KN.of k (by omega) (by omega) g3
    · (repeat (first | exact jUp_at (by omega) | refine (jUp_ne (by omega)).trans ?_ | refine (memG_old (by omega)).trans ?_))
    · rw [show kd 30 = 1006 from by decide +kernel]
      exact cellK_i (n := 6) (by decide) _
    · (repeat (first | exact jUp_at (by omega) | refine (jUp_ne (by omega)).trans ?_ | refine (memG_old (by omega)).trans ?_))
    · rw [show kd 31 = 1006 from by decide +kernel]
      exact cellK_i (n := 6) (by decide) _
    · (repeat (first | refine (jUp_ne (by omega)).trans ?_ | refine (memG_old (by omega)).trans ?_))
      exact KN.of k (by omega) (by omega) g3
    · (repeat (first | refine (jUp_ne (by omega)).trans ?_ | refine (memG_old (by omega)).trans ?_))
      exact KN.of k (by omega) (by omega) g3
  · exact jUp_eq
  · (repeat (first | exact jUp_at (by omega) | refine (jUp_ne (by omega)).trans ?_ | refine (memG_old (by omega)).trans ?_))
  · (repeat (first | exact jUp_at (by omega) | refine (jUp_ne (by omega)).trans ?_ | refine (memG_old (by omega)).trans ?_))
  · (repeat (first | refine (jUp_ne (by omega)).trans ?_ | refine (memG_old (by omega)).trans ?_))
    rfl
  · obtain ⟨i1, i2, i3, i4, i5⟩ := hI
    refine j_memE (M1 := memG 24 (24 + 37) (kD κ) (kB κ) (sA SG) M) (mem_cells (fun j hj hk => ?_) (fun a e he ho => ⟨e, ?_, Or.inl rfl⟩)) ?_
    · by_cases h3 : 3 ≤ j
      · exact ⟨_, i1 (24 + j) (by omega) (by omega) hk, Or.inl rfl⟩
      · match j, h3 with
        | 0, _ => exact ⟨_, i2, Or.inl (by rw [show kd (24 + 0) = 6 from by decide +kernel]; rfl)⟩
        | 1, _ => exact ⟨_, i3, Or.inr (by rw [show kd (24 + 1) = 7 from by decide +kernel]; exact ⟨_, _, _, _, rfl, rfl, fun i hi => by rw [if_pos hi]⟩)⟩
        | 2, _ => exact ⟨_, i4, Or.inr (by rw [show kd (24 + 2) = 8 from by decide +kernel]; exact ⟨_, _, _, _, rfl, rfl, fun i hi => by rw [if_pos hi]⟩)⟩
        | j + 3, h3 => exact absurd (by omega) h3
    · have ha := hlt a e he
      have hne : a ≠ kB κ + 24 → a < kB κ + 24 := fun h => by omega
      rcases ho with h | h | h
      · exact (i5 a h).trans he
      · omega
      · by_cases h9 : a = kB κ + 24
        · subst h9
          rw [Nat.add_sub_cancel_left] at h
          exact absurd h (by decide +kernel)
        · exact (i5 a (hne h9)).trans he
    · exact j_vret X dX0_init_113 rfl (fun _ h => h)
end CTF
