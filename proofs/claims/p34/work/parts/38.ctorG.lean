section CTG
variable {l : Launch} {D : va_G} {B t0 : Nat}
/-- the raw memory of a new FlagChamber -/
def sF (SG SH SR : jS) (SP : Nat → jS) : jS := fun k => if k < 24 then fun _ => 0 else if k < 61 then sA SG k else if k < 65 then SH k else if k < 80 then SR k else if k < 82 then fun _ => 0 else if k < 322 then SP ((k - 82) / 12) k else if k < 346 then fun _ => 0 else fun i => if (k - 346) % 2 = 0 ∧ i = 2 then -1 else 0
abbrev flgs (D : va_G) (f : Nat → Option Nat) : va_E := .inl (D.1 26, 8, .inr (.inr (.inr (.inr f))))
abbrev trls (D : va_G) (f : Nat → Option Nat) : va_E := .inl (D.1 27, 6, .inr (.inr (.inr (.inr f))))
abbrev psts (D : va_G) (f : Nat → Option Nat) : va_E := .inl (D.1 28, 20, .inr (.inr (.inr (.inr f))))
abbrev fcC (B : Nat) : va_E := .inr (11, [.ref (B + 1), .ref (B + 24), .ref (B + 61), .ref (B + 62), .ref (B + 65), .ref (B + 66), .ref (B + 67), .ref (B + 68), .ref (B + 80), .ref (B + 81)])
/-- what is there, p pasts, f flags, t trials made -/
def FI (D : va_G) (B t0 : Nat) (SF : jS) (M : jMem) (p f t : Nat) (Mx : jMem) : Prop :=
  KN D B SF 1 61 Mx ∧ KN D B SF 62 65 Mx ∧ KN D B SF 68 82 Mx ∧ KN D B SF 82 (82 + 12 * p) Mx ∧ KN D B SF 322 (322 + 3 * f) Mx ∧ KN D B SF 346 (346 + 2 * t) Mx ∧
  Mx (B + 0) = some (fcC B) ∧ Mx (B + 61) = some (flgs D (fun j => if j < f then some (B + (322 + 3 * j)) else none)) ∧ Mx (B + 65) = some (trls D (fun j => if j < t then some (B + (346 + 2 * j)) else none)) ∧ Mx (B + 66) = some (listC 0 t0 0) ∧ Mx (B + 67) = some (psts D (fun j => if j < p then some (B + (82 + 12 * j)) else none)) ∧ ∀ a, a < B → Mx a = M a
abbrev rm_X10_init : Room := { frames := 7, cells := 400, slots := 4000, locals := 200 }
set_option maxHeartbeats 4000000 in
set_option maxRecDepth 100000 in
theorem c_X10_pasts {κ : jCx} {ρ : Type} {Qf : ρ → State → Prop} {o : Option ρ} {M : jMem} {SF : jS} {SP : Nat → jS} (hP : ∀ p, p < 20 → ∃ v, f_X5_forget zS (82 + 12 * p) = some (0, v, SP p)) (hE : ∀ p, p < 20 → ∀ k, 82 + 12 * p ≤ k → k < 82 + 12 * p + 12 → SF k = SP p k) (X : jX κ RX10 cX10_init 2 none) (bc0 bs0 : Nat) : ∀ n i : Nat, i + n = 20 → ∀ Mx, FI (kD κ) (kB κ) (kT κ) SF M i 0 0 Mx → ∀ bc bs, bc = 12 * n + bc0 → bs = 89 * n + bs0 →
    (∀ Mx, FI (kD κ) (kB κ) (kT κ) SF M 20 0 0 Mx → J κ 2 rm_X10_init Qf o Mx (fun n => n = kB κ + 322) bc0 bs0 [(0, .ref (kB κ + 0)), (1, .int (20 : Int32))] 131 []) →
    J κ 2 rm_X10_init Qf o Mx (fun n => n = kB κ + (82 + 12 * i)) bc bs [(0, .ref (kB κ + 0)), (1, .int (Int32.ofNat i))] 106 []
  | 0, i, hi, Mx, hI, bc, bs, h1, h2, kk => by
    have : i = 20 := by omega
    subst this
    subst h1
    subst h2
    refine j_iload_n X 1 rfl dX10_init_106 rfl ?_
    refine j_bipush X (20 : Int32) dX10_init_107 (by rfl) ?_
    refine jh_icmp_ge X 131 dX10_init_109 (by decide) (fun _ => ?_) (fun h => absurd (by decide) h)
    refine j_zle (z1 := fun n => n = kB κ + 322) (fun n9 hn9 => by have hn9 : n9 = _ := hn9; omega) ?_
    exact j_bud (by omega) (by omega) (kk Mx hI)
  | n + 1, i, hi, Mx, ⟨i1, i2, i3, i4, i5, i6, j0, j1, j2, j3, j4, j5⟩, bc, bs, h1, h2, kk => by
    refine j_iload_n X 1 rfl dX10_init_106 rfl ?_
    refine j_bipush X (20 : Int32) dX10_init_107 (by rfl) ?_
    refine jh_icmp_ge X 131 dX10_init_109 (by decide) (fun h => absurd ((n32_lt6 (i := i) (n := 20) (by omega) (by omega)).mp h) (by omega)) (fun _ => ?_)
    have hin : vp_in (Int32.ofNat i) 20 := n32_in (by omega) (by omega)
    have hcl : (Int32.ofNat i).toNatClampNeg = i := n32_cl (by omega)
    obtain ⟨vP, hPi⟩ := hP i (by omega)
    refine j_bud (bc1 := 12 * n + bc0 + 11 + 1) (bs1 := 89 * n + bs0 + 84 + 5) (by omega) (by omega) ?_
    refine j_aload_n X 0 rfl dX10_init_112 rfl ?_
    refine j_getf X 6 cf_X10 (by decide) fl_X10_53 dX10_init_113 j0 rfl ?_
    refine j_iload_n X 1 rfl dX10_init_116 rfl ?_
    refine j_new X (bc1 := 12 * n + bc0 + 11) (bs1 := 89 * n + bs0 + 84) cf_X5 cl_X10_51 ⟨it_X5, in_X5⟩ hf_X5 dX10_init_117 ⟨by omega, by omega⟩ ?_
    refine j_zle (z1 := fun n => n = kB κ + (82 + 12 * i + 1)) (fun n9 hn9 => by have hn9 : n9 = _ := hn9; omega) ?_
    refine j_dup X dX10_init_120 rfl ?_
    refine j_eq (o1 := jbin0 (some ((0 : Nat), (0 : Int32), ())) (fun _ _ => o)) rfl ?_
    refine j_call0I X (12 * n + bc0) (89 * n + bs0) ((c_X5_init X.tr _ (82 + 12 * i) (isPast_of (by omega)) jUp_eq).known (v := 0) (S := SP i) (by rw [hPi]; rfl)) me_X5_init ml_X10_57 ii_X5_init dX10_init_121 (rest := [.ref (kB κ + (82 + 12 * i)), .int (Int32.ofNat i), .ref (kB κ + 67)]) rfl rfl (by decide) ⟨by show 11 + (12 * n + bc0) ≤ _; omega, by show 84 + (89 * n + bs0) ≤ _; omega⟩ (Nat.le_of_ble_eq_true rfl) (fun v S' M' hM' => ?_)
    subst hM'
    have mA : memG (82 + 12 * i) (82 + 12 * i + 12) (kD κ) (kB κ) (SP i) (jUp Mx (kB κ + (82 + 12 * i)) (.inr (6, [.null, .null, .null, .null, .null]))) (kB κ + 67) = _ := (memG_old (by omega)).trans ((jUp_ne (by omega)).trans j4)
    have mT : memG (82 + 12 * i) (82 + 12 * i + 12) (kD κ) (kB κ) (SP i) (jUp Mx (kB κ + (82 + 12 * i)) (.inr (6, [.null, .null, .null, .null, .null]))) (kB κ + (82 + 12 * i)) = some (.inr (6, [.ref (kB κ + (82 + 12 * i + 1)), .ref (kB κ + (82 + 12 * i + 2)), .ref (kB κ + (82 + 12 * i + 9)), .ref (kB κ + (82 + 12 * i + 10)), .ref (kB κ + (82 + 12 * i + 11))])) := by
      rw [KN.of (82 + 12 * i) (Nat.le_refl _) (by omega) (by rw [(kPast (isPast_of (i := i) (by omega))).1.2.2.1]; decide), (kPast (isPast_of (i := i) (by omega))).1.2.2.1]
      rfl
    refine j_aast X 8 cf_X5 rfl hin dX10_init_124 (Nat.le_add_right _ _) mA mT ?_
    rw [hcl, va_up_if (g := fun j => kB κ + (82 + 12 * j))]
    have hF : FI (kD κ) (kB κ) (kT κ) SF M (i + 1) 0 0 (jUp (memG (82 + 12 * i) (82 + 12 * i + 12) (kD κ) (kB κ) (SP i) (jUp Mx (kB κ + (82 + 12 * i)) (.inr (6, [.null, .null, .null, .null, .null])))) (kB κ + 67) (psts (kD κ) (fun j => if j < i + 1 then some (kB κ + (82 + 12 * j)) else none))) := ⟨((i1.up (by omega)).mem (by omega)).up (by omega),
      ((i2.up (by omega)).mem (by omega)).up (by omega),
      ((i3.up (by omega)).mem (by omega)).up (by omega),
      (((i4.up (by omega)).mem (by omega)).join (KN.eq (S := (SP i)) (fun k g1 g2 g3 => KN.of k (by omega) (by omega) g3) (fun k g1 g2 => (hE i (by omega) k g1 (by omega)).symm))).up (by omega),
      ((i5.up (by omega)).mem (by omega)).up (by omega),
      ((i6.up (by omega)).mem (by omega)).up (by omega),
      (jUp_ne (by omega)).trans ((memG_old (by omega)).trans ((jUp_ne (by omega)).trans j0)),
      (jUp_ne (by omega)).trans ((memG_old (by omega)).trans ((jUp_ne (by omega)).trans j1)),
      (jUp_ne (by omega)).trans ((memG_old (by omega)).trans ((jUp_ne (by omega)).trans j2)),
      (jUp_ne (by omega)).trans ((memG_old (by omega)).trans ((jUp_ne (by omega)).trans j3)),
      jUp_eq,
      fun a ha => (jUp_ne (by omega)).trans ((memG_old (by omega)).trans ((jUp_ne (by omega)).trans (j5 a ha)))⟩
    generalize jUp (memG (82 + 12 * i) (82 + 12 * i + 12) (kD κ) (kB κ) (SP i) (jUp Mx (kB κ + (82 + 12 * i)) (.inr (6, [.null, .null, .null, .null, .null])))) (kB κ + 67) (psts (kD κ) (fun j => if j < i + 1 then some (kB κ + (82 + 12 * j)) else none)) = Mz at hF ⊢
    refine j_iinc X 1 [(1, .int (Int32.ofNat (i + 1))), (0, .ref (kB κ + 0))] dX10_init_125 rfl n32_succ (by decide) rfl ?_
    refine j_goto X 106 dX10_init_128 (by decide) ?_
    refine j_lv [1, 0] rfl ?_
    refine j_zle (z1 := fun n => n = kB κ + (82 + 12 * (i + 1))) (fun n9 hn9 => by have hn9 : n9 = _ := hn9; omega) ?_
    exact c_X10_pasts hP hE X bc0 bs0 n (i + 1) (by omega) Mz hF _ _ rfl rfl kk
set_option maxHeartbeats 4000000 in
set_option maxRecDepth 100000 in
theorem c_X10_flags {κ : jCx} {ρ : Type} {Qf : ρ → State → Prop} {o : Option ρ} {M : jMem} {SF : jS} (hE : ∀ k, 322 ≤ k → k < 346 → SF k = fun _ => 0) (X : jX κ RX10 cX10_init 2 none) (bc0 bs0 : Nat) : ∀ n i : Nat, i + n = 8 → ∀ Mx, FI (kD κ) (kB κ) (kT κ) SF M 20 i 0 Mx → ∀ bc bs, bc = 3 * n + bc0 → bs = 13 * n + bs0 →
    (∀ Mx, FI (kD κ) (kB κ) (kT κ) SF M 20 8 0 Mx → J κ 2 rm_X10_init Qf o Mx (fun n => n = kB κ + 346) bc0 bs0 [(0, .ref (kB κ + 0)), (1, .int (8 : Int32))] 158 []) →
    J κ 2 rm_X10_init Qf o Mx (fun n => n = kB κ + (322 + 3 * i)) bc bs [(0, .ref (kB κ + 0)), (1, .int (Int32.ofNat i))] 133 []
  | 0, i, hi, Mx, hI, bc, bs, h1, h2, kk => by
    have : i = 8 := by omega
    subst this
    subst h1
    subst h2
    refine j_iload_n X 1 rfl dX10_init_133 rfl ?_
    refine j_bipush X (8 : Int32) dX10_init_134 (by rfl) ?_
    refine jh_icmp_ge X 158 dX10_init_136 (by decide) (fun _ => ?_) (fun h => absurd (by decide) h)
    refine j_zle (z1 := fun n => n = kB κ + 346) (fun n9 hn9 => by have hn9 : n9 = _ := hn9; omega) ?_
    exact j_bud (by omega) (by omega) (kk Mx hI)
  | n + 1, i, hi, Mx, ⟨i1, i2, i3, i4, i5, i6, j0, j1, j2, j3, j4, j5⟩, bc, bs, h1, h2, kk => by
    refine j_iload_n X 1 rfl dX10_init_133 rfl ?_
    refine j_bipush X (8 : Int32) dX10_init_134 (by rfl) ?_
    refine jh_icmp_ge X 158 dX10_init_136 (by decide) (fun h => absurd ((n32_lt6 (i := i) (n := 8) (by omega) (by omega)).mp h) (by omega)) (fun _ => ?_)
    have hin : vp_in (Int32.ofNat i) 8 := n32_in (by omega) (by omega)
    have hcl : (Int32.ofNat i).toNatClampNeg = i := n32_cl (by omega)
    refine j_bud (bc1 := 3 * n + bc0 + 2 + 1) (bs1 := 13 * n + bs0 + 10 + 3) (by omega) (by omega) ?_
    refine j_aload_n X 0 rfl dX10_init_139 rfl ?_
    refine j_getf X 2 cf_X10 (by decide) fl_X10_25 dX10_init_140 j0 rfl ?_
    refine j_iload_n X 1 rfl dX10_init_143 rfl ?_
    refine j_new X (bc1 := 3 * n + bc0 + 2) (bs1 := 13 * n + bs0 + 10) cf_X3 cl_X10_23 ⟨it_X3, in_X3⟩ hf_X3 dX10_init_144 ⟨by omega, by omega⟩ ?_
    refine j_zle (z1 := fun n => n = kB κ + (322 + 3 * i + 1)) (fun n9 hn9 => by have hn9 : n9 = _ := hn9; omega) ?_
    refine j_dup X dX10_init_147 rfl ?_
    refine j_eq (o1 := jbin0 (some ((0 : Nat), (0 : Int32), ())) (fun _ _ => o)) rfl ?_
    refine j_call0IN X (3 * n + bc0) (13 * n + bs0) (c_X3_init X.tr _ (322 + 3 * i) (isFlag_of (by omega)) jUp_eq) me_X3_init mn_X10_69 ii_X3_init dX10_init_148 (rest := [.ref (kB κ + (322 + 3 * i)), .int (Int32.ofNat i), .ref (kB κ + 61)]) rfl rfl (by decide) ⟨by show 2 + (3 * n + bc0) ≤ _; omega, by show 10 + (13 * n + bs0) ≤ _; omega⟩ (Nat.le_of_ble_eq_true rfl) (fun v S' M' hM' => ?_)
    subst hM'
    have mA : memG (322 + 3 * i) (322 + 3 * i + 3) (kD κ) (kB κ) zS (jUp Mx (kB κ + (322 + 3 * i)) (.inr (4, [.null, .null, .int 0]))) (kB κ + 61) = _ := (memG_old (by omega)).trans ((jUp_ne (by omega)).trans j1)
    have mT : memG (322 + 3 * i) (322 + 3 * i + 3) (kD κ) (kB κ) zS (jUp Mx (kB κ + (322 + 3 * i)) (.inr (4, [.null, .null, .int 0]))) (kB κ + (322 + 3 * i)) = some (.inr (4, [.ref (kB κ + (322 + 3 * i + 1)), .ref (kB κ + (322 + 3 * i + 2)), .int 0])) := by
      rw [KN.of (322 + 3 * i) (Nat.le_refl _) (by omega) (by rw [(kFlag (isFlag_of (i := i) (by omega))).1.2.2.1]; decide), (kFlag (isFlag_of (i := i) (by omega))).1.2.2.1]
      rfl
    refine j_aast X 6 cf_X3 rfl hin dX10_init_151 (Nat.le_add_right _ _) mA mT ?_
    rw [hcl, va_up_if (g := fun j => kB κ + (322 + 3 * j))]
    have hF : FI (kD κ) (kB κ) (kT κ) SF M 20 (i + 1) 0 (jUp (memG (322 + 3 * i) (322 + 3 * i + 3) (kD κ) (kB κ) zS (jUp Mx (kB κ + (322 + 3 * i)) (.inr (4, [.null, .null, .int 0])))) (kB κ + 61) (flgs (kD κ) (fun j => if j < i + 1 then some (kB κ + (322 + 3 * j)) else none))) := ⟨((i1.up (by omega)).mem (by omega)).up (by omega),
      ((i2.up (by omega)).mem (by omega)).up (by omega),
      ((i3.up (by omega)).mem (by omega)).up (by omega),
      ((i4.up (by omega)).mem (by omega)).up (by omega),
      (((i5.up (by omega)).mem (by omega)).join (KN.eq (S := zS) (fun k g1 g2 g3 => KN.of k (by omega) (by omega) g3) (fun k g1 g2 => (hE k (by omega) (by omega)).symm))).up (by omega),
      ((i6.up (by omega)).mem (by omega)).up (by omega),
      (jUp_ne (by omega)).trans ((memG_old (by omega)).trans ((jUp_ne (by omega)).trans j0)),
      jUp_eq,
      (jUp_ne (by omega)).trans ((memG_old (by omega)).trans ((jUp_ne (by omega)).trans j2)),
      (jUp_ne (by omega)).trans ((memG_old (by omega)).trans ((jUp_ne (by omega)).trans j3)),
      (jUp_ne (by omega)).trans ((memG_old (by omega)).trans ((jUp_ne (by omega)).trans j4)),
      fun a ha => (jUp_ne (by omega)).trans ((memG_old (by omega)).trans ((jUp_ne (by omega)).trans (j5 a ha)))⟩
    generalize jUp (memG (322 + 3 * i) (322 + 3 * i + 3) (kD κ) (kB κ) zS (jUp Mx (kB κ + (322 + 3 * i)) (.inr (4, [.null, .null, .int 0])))) (kB κ + 61) (flgs (kD κ) (fun j => if j < i + 1 then some (kB κ + (322 + 3 * j)) else none)) = Mz at hF ⊢
    refine j_iinc X 1 [(1, .int (Int32.ofNat (i + 1))), (0, .ref (kB κ + 0))] dX10_init_152 rfl n32_succ (by decide) rfl ?_
    refine j_goto X 133 dX10_init_155 (by decide) ?_
    refine j_lv [1, 0] rfl ?_
    refine j_zle (z1 := fun n => n = kB κ + (322 + 3 * (i + 1))) (fun n9 hn9 => by have hn9 : n9 = _ := hn9; omega) ?_
    exact c_X10_flags hE X bc0 bs0 n (i + 1) (by omega) Mz hF _ _ rfl rfl kk
set_option maxHeartbeats 4000000 in
set_option maxRecDepth 100000 in
theorem c_X10_trials {κ : jCx} {ρ : Type} {Qf : ρ → State → Prop} {o : Option ρ} {M : jMem} {SF : jS} (hE : ∀ t, t < 6 → ∀ k, 346 + 2 * t ≤ k → k < 346 + 2 * t + 2 → SF k = tS (346 + 2 * t) k) (X : jX κ RX10 cX10_init 2 none) (bc0 bs0 : Nat) : ∀ n i : Nat, i + n = 6 → ∀ Mx, FI (kD κ) (kB κ) (kT κ) SF M 20 8 i Mx → ∀ bc bs, bc = 2 * n + bc0 → bs = 8 * n + bs0 →
    (∀ Mx, FI (kD κ) (kB κ) (kT κ) SF M 20 8 6 Mx → J κ 2 rm_X10_init Qf o Mx (fun n => n = kB κ + 358) bc0 bs0 [(0, .ref (kB κ + 0)), (1, .int (6 : Int32))] 185 []) →
    J κ 2 rm_X10_init Qf o Mx (fun n => n = kB κ + (346 + 2 * i)) bc bs [(0, .ref (kB κ + 0)), (1, .int (Int32.ofNat i))] 160 []
  | 0, i, hi, Mx, hI, bc, bs, h1, h2, kk => by
    have : i = 6 := by omega
    subst this
    subst h1
    subst h2
    refine j_iload_n X 1 rfl dX10_init_160 rfl ?_
    refine j_bipush X (6 : Int32) dX10_init_161 (by rfl) ?_
    refine jh_icmp_ge X 185 dX10_init_163 (by decide) (fun _ => ?_) (fun h => absurd (by decide) h)
    refine j_zle (z1 := fun n => n = kB κ + 358) (fun n9 hn9 => by have hn9 : n9 = _ := hn9; omega) ?_
    exact j_bud (by omega) (by omega) (kk Mx hI)
  | n + 1, i, hi, Mx, ⟨i1, i2, i3, i4, i5, i6, j0, j1, j2, j3, j4, j5⟩, bc, bs, h1, h2, kk => by
    refine j_iload_n X 1 rfl dX10_init_160 rfl ?_
    refine j_bipush X (6 : Int32) dX10_init_161 (by rfl) ?_
    refine jh_icmp_ge X 185 dX10_init_163 (by decide) (fun h => absurd ((n32_lt6 (i := i) (n := 6) (by omega) (by omega)).mp h) (by omega)) (fun _ => ?_)
    have hin : vp_in (Int32.ofNat i) 6 := n32_in (by omega) (by omega)
    have hcl : (Int32.ofNat i).toNatClampNeg = i := n32_cl (by omega)
    refine j_bud (bc1 := 2 * n + bc0 + 1 + 1) (bs1 := 8 * n + bs0 + 4 + 4) (by omega) (by omega) ?_
    refine j_aload_n X 0 rfl dX10_init_166 rfl ?_
    refine j_getf X 4 cf_X10 (by decide) fl_X10_40 dX10_init_167 j0 rfl ?_
    refine j_iload_n X 1 rfl dX10_init_170 rfl ?_
    refine j_new X (bc1 := 2 * n + bc0 + 1) (bs1 := 8 * n + bs0 + 4) cf_X9 cl_X10_38 ⟨it_X9, in_X9⟩ hf_X9 dX10_init_171 ⟨by omega, by omega⟩ ?_
    refine j_zle (z1 := fun n => n = kB κ + (346 + 2 * i + 1)) (fun n9 hn9 => by have hn9 : n9 = _ := hn9; omega) ?_
    refine j_dup X dX10_init_174 rfl ?_
    refine j_eq (o1 := jbin0 (some ((0 : Nat), (0 : Int32), ())) (fun _ _ => o)) rfl ?_
    refine j_call0IN X (2 * n + bc0) (8 * n + bs0) (c_X9_init X.tr _ (346 + 2 * i) (isTrial_of (by omega)) jUp_eq) me_X9_init mn_X10_70 ii_X9_init dX10_init_175 (rest := [.ref (kB κ + (346 + 2 * i)), .int (Int32.ofNat i), .ref (kB κ + 65)]) rfl rfl (by decide) ⟨by show 1 + (2 * n + bc0) ≤ _; omega, by show 4 + (8 * n + bs0) ≤ _; omega⟩ (Nat.le_of_ble_eq_true rfl) (fun v S' M' hM' => ?_)
    subst hM'
    have mA : memG (346 + 2 * i) (346 + 2 * i + 2) (kD κ) (kB κ) (tS (346 + 2 * i)) (jUp Mx (kB κ + (346 + 2 * i)) (.inr (10, [.null, .int 0, .int 0, .int 0]))) (kB κ + 65) = _ := (memG_old (by omega)).trans ((jUp_ne (by omega)).trans j2)
    have mT : memG (346 + 2 * i) (346 + 2 * i + 2) (kD κ) (kB κ) (tS (346 + 2 * i)) (jUp Mx (kB κ + (346 + 2 * i)) (.inr (10, [.null, .int 0, .int 0, .int 0]))) (kB κ + (346 + 2 * i)) = some (.inr (10, [.ref (kB κ + (346 + 2 * i + 1)), .int 0, .int (-1), .int 0])) := by
      rw [KN.of (346 + 2 * i) (Nat.le_refl _) (by omega) (by rw [(kTrial (isTrial_of (i := i) (by omega))).1.2.2.1]; decide), (kTrial (isTrial_of (i := i) (by omega))).1.2.2.1]
      simp [cellK, tS]
    refine j_aast X 7 cf_X9 rfl hin dX10_init_178 (Nat.le_add_right _ _) mA mT ?_
    rw [hcl, va_up_if (g := fun j => kB κ + (346 + 2 * j))]
    have hF : FI (kD κ) (kB κ) (kT κ) SF M 20 8 (i + 1) (jUp (memG (346 + 2 * i) (346 + 2 * i + 2) (kD κ) (kB κ) (tS (346 + 2 * i)) (jUp Mx (kB κ + (346 + 2 * i)) (.inr (10, [.null, .int 0, .int 0, .int 0])))) (kB κ + 65) (trls (kD κ) (fun j => if j < i + 1 then some (kB κ + (346 + 2 * j)) else none))) := ⟨((i1.up (by omega)).mem (by omega)).up (by omega),
      ((i2.up (by omega)).mem (by omega)).up (by omega),
      ((i3.up (by omega)).mem (by omega)).up (by omega),
      ((i4.up (by omega)).mem (by omega)).up (by omega),
      ((i5.up (by omega)).mem (by omega)).up (by omega),
      (((i6.up (by omega)).mem (by omega)).join (KN.eq (S := (tS (346 + 2 * i))) (fun k g1 g2 g3 => KN.of k (by omega) (by omega) g3) (fun k g1 g2 => (hE i (by omega) k g1 (by omega)).symm))).up (by omega),
      (jUp_ne (by omega)).trans ((memG_old (by omega)).trans ((jUp_ne (by omega)).trans j0)),
      (jUp_ne (by omega)).trans ((memG_old (by omega)).trans ((jUp_ne (by omega)).trans j1)),
      jUp_eq,
      (jUp_ne (by omega)).trans ((memG_old (by omega)).trans ((jUp_ne (by omega)).trans j3)),
      (jUp_ne (by omega)).trans ((memG_old (by omega)).trans ((jUp_ne (by omega)).trans j4)),
      fun a ha => (jUp_ne (by omega)).trans ((memG_old (by omega)).trans ((jUp_ne (by omega)).trans (j5 a ha)))⟩
    generalize jUp (memG (346 + 2 * i) (346 + 2 * i + 2) (kD κ) (kB κ) (tS (346 + 2 * i)) (jUp Mx (kB κ + (346 + 2 * i)) (.inr (10, [.null, .int 0, .int 0, .int 0])))) (kB κ + 65) (trls (kD κ) (fun j => if j < i + 1 then some (kB κ + (346 + 2 * j)) else none)) = Mz at hF ⊢
    refine j_iinc X 1 [(1, .int (Int32.ofNat (i + 1))), (0, .ref (kB κ + 0))] dX10_init_179 rfl n32_succ (by decide) rfl ?_
    refine j_goto X 160 dX10_init_182 (by decide) ?_
    refine j_lv [1, 0] rfl ?_
    refine j_zle (z1 := fun n => n = kB κ + (346 + 2 * (i + 1))) (fun n9 hn9 => by have hn9 : n9 = _ := hn9; omega) ?_
    exact c_X10_trials hE X bc0 bs0 n (i + 1) (by omega) Mz hF _ _ rfl rfl kk
end CTG
