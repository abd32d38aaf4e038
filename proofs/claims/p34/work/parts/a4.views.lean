section VWS
theorem cg_dec {S S2 : jS} {b a3 : Nat} {p : Int32} (h1 : S2 b = S b) (h2 : S2 (b + 1) = S (b + 1)) (h3 : S2 a3 = S a3) : f_X3_decidingRule S2 b p a3 = f_X3_decidingRule S b p a3 := by
  unfold f_X3_decidingRule
  rw [h1, h2, h3]
theorem cg_out {S S2 : jS} {b : Nat} {p : Int32} (h1 : S2 b = S b) (h2 : S2 (b + 2) = S (b + 2)) : f_X3_outcomeOf S2 b p = f_X3_outcomeOf S b p := by
  unfold f_X3_outcomeOf
  rw [h1, h2]
theorem cg_tri {S S2 : jS} {b : Nat} {p : Int32} (h1 : S2 b = S b) (h2 : S2 (b + 2) = S (b + 2)) : f_X3_trialOf S2 b p = f_X3_trialOf S b p := by
  unfold f_X3_trialOf
  rw [cg_out h1 h2]
theorem cg_arm {S S2 : jS} {b : Nat} {p k : Int32} (h1 : S2 b = S b) (h2 : S2 (b + 1) = S (b + 1)) : f_X9_armFor S2 b p k = f_X9_armFor S b p k := by
  unfold f_X9_armFor f_X9_drawArm f_X9_sumOfShares
  rw [h1, h2]
theorem cg_dv {S S2 : jS} {a1 a3 b4 : Nat} {p f : Int32} (ha1 : a1 = 80 ∨ a1 = 81) (h : ∀ q, q ≠ a1 → S2 q = S q) (ha3 : a3 ≠ a1) (hb4 : b4 + 1 ≠ a1) : f_X10_decidedView S2 p f a3 b4 = f_X10_decidedView S p f a3 b4 := by
  have e1 : ∀ n q a, a ≠ a1 → f_X3_decidingRule S2 (322 + 3 * n) q a = f_X3_decidingRule S (322 + 3 * n) q a := fun n q a ha => cg_dec (h _ (by omega)) (h _ (by omega)) (h _ ha)
  have e2 : ∀ n q, f_X3_trialOf S2 (322 + 3 * n) q = f_X3_trialOf S (322 + 3 * n) q := fun n q => cg_tri (h _ (by omega)) (h _ (by omega))
  have e3 : ∀ n q, f_X3_outcomeOf S2 (322 + 3 * n) q = f_X3_outcomeOf S (322 + 3 * n) q := fun n q => cg_out (h _ (by omega)) (h _ (by omega))
  have e4 : ∀ n q k, f_X9_armFor S2 (346 + 2 * n) q k = f_X9_armFor S (346 + 2 * n) q k := fun n q k => cg_arm (h _ (by omega)) (h _ (by omega))
  unfold f_X10_decidedView
  rw [e1 _ _ _ ha3, h _ hb4]
  simp only [e2, e3, e4]
theorem lck_c {nd : Int32} {V V1 : Nat → Int32} (h : ∀ o, o < 8 → bt nd o = true → V o = V1 o) : lck nd V = lck nd V1 := anyB_c fun k hk => by
  by_cases hb : bt nd k = true
  · rw [h k hk hb]
  · rw [show bt nd k = false by simpa using hb, Bool.false_and, Bool.false_and]
theorem stepV_c {ho fz nd D : Int32} {V V1 : Nat → Int32} (h : ∀ o, o < 8 → bt nd o = true → V o = V1 o) : stepV ho fz nd D V = stepV ho fz nd D V1 := by
  unfold stepV
  rw [lck_c h]
/-- views that hold all at once are the only ones -/
theorem views_uniq {ho fz nd D V V1 : Nat → Int32} {pos : Nat → Nat} (hpos : ∀ i, i < 8 → ∀ j, j < 8 → bt (nd i) j = true → pos j < pos i) (h : ∀ f, f < 8 → V f = stepV (ho f) (fz f) (nd f) (D f) V) (h1 : ∀ f, f < 8 → V1 f = stepV (ho f) (fz f) (nd f) (D f) V1) : ∀ f, f < 8 → V f = V1 f := by
  have key : ∀ k f, f < 8 → pos f < k → V f = V1 f := by
    intro k
    induction k with
    | zero => exact fun f _ h => absurd h (Nat.not_lt_zero _)
    | succ k ih =>
      intro f hf hk
      rw [h f hf, h1 f hf]
      exact stepV_c fun o ho hb => ih o ho (by have := hpos f hf o ho hb; omega)
  exact fun f hf => key (pos f + 1) f hf (by omega)
theorem f_findViews {S : jS} {a1 a3 b4 p : Nat} {pos : Nat → Nat} {D : Nat → Int32} (ha1 : a1 = 80 ∨ a1 = 81) (ha3 : a3 ≠ a1) (hb4 : 66 ≤ b4 ∧ (b4 + 11 < 80 ∨ 81 < b4)) (hO : OrdC S 64 8 pos) (hT : ∀ f, f < 8 → bits 8 (S 63 f)) (hpos : ∀ i, i < 8 → ∀ j, j < 8 → bt (S 63 i) j = true → pos j < pos i) (hD : ∀ f, f < 8 → f_X10_decidedView S (Int32.ofNat p) (Int32.ofNat f) a3 b4 = some (0, D f, ())) :
    ∃ S1, f_X10_findViews S a1 (Int32.ofNat p) a3 b4 = some (0, 0, S1) ∧ (∀ q, q ≠ a1 → S1 q = S q) ∧ ∀ f, f < 8 → S1 a1 f = stepV (S (b4 + 10) f) (S (b4 + 11) f) (S 63 f) (D f) (S1 a1) := by
  suffices hw : wq (f_X10_findViews S a1 (Int32.ofNat p) a3 b4) (fun t v S1 => t = 0 ∧ v = 0 ∧ (∀ q, q ≠ a1 → S1 q = S q) ∧ ∀ f, f < 8 → S1 a1 f = stepV (S (b4 + 10) f) (S (b4 + 11) f) (S 63 f) (D f) (S1 a1)) by
    obtain ⟨t, v, S1, e, rfl, rfl, h⟩ := wq_ex hw
    exact ⟨S1, e, h⟩
  unfold f_X10_findViews
  refine wq_for (fun (K : jS → Int32 → Int32 → Option (jR jS)) i (b : jS × Int32) => K b.1 b.2 i) 8 (fun i b => (∀ q, q ≠ a1 → b.1 q = S q) ∧ bits 8 b.2 ∧ (∀ f, f < 8 → pos f < i → b.1 a1 f = stepV (S (b4 + 10) f) (S (b4 + 11) f) (S 63 f) (D f) (b.1 a1)) ∧ ∀ f, f < 8 → (bt b.2 f = true ↔ pos f < i ∧ b.1 a1 f = 0)) (fun rec i b hi hP ih => ?_) (fun rec b hP => ?_) 8 0 1000 (S, 0) (by omega) (by omega) ⟨fun _ _ => rfl, bits_0, fun f _ h => absurd h (Nat.not_lt_zero _), fun f _ => ⟨fun h => by rw [bt_0] at h; exact absurd h (by decide), fun h => absurd h.1 (Nat.not_lt_zero _)⟩⟩
  · obtain ⟨S2, z⟩ := b
    obtain ⟨hf, hb, hV, hz⟩ := hP
    dsimp only at hf hb hV hz ⊢
    have e : ((8 : Int32) ≤ Int32.ofNat i) = (8 ≤ i) := n32_le (n := 8) (by omega) (by omega)
    obtain ⟨f, hf8, ef, hpf⟩ := hO.1 i hi
    have ci : (Int32.ofNat i).toNatClampNeg = i := n32_c (by omega)
    have cf : (Int32.ofNat f).toNatClampNeg = f := n32_c (by omega)
    have c8 : inb (Int32.ofNat f) 8 = true := n32_inb (by omega) hf8
    have hinj : ∀ o, o < 8 → pos o < i + 1 → o ≠ f → pos o < i := fun o ho hpo hof => by
      have h9 : pos o ≠ i := fun h9 => by
        have h8 := (hO.2 o ho).2
        have h7 := (hO.2 f hf8).2
        rw [h9] at h8
        rw [hpf] at h7
        rw [h8] at h7
        exact hof (n32_inj (by omega) (by omega) h7)
      omega
    refine wq_ite (fun h => absurd (Eq.mp e h) (by omega)) (fun _ => wq_chk (n32_inb (by omega) hi) (wq_let ?_))
    have e64 : S2 (62 + 2) (Int32.ofNat i).toNatClampNeg = Int32.ofNat f := by
      rw [ci, hf 64 (by omega)]
      exact ef
    rw [e64, cf]
    refine wq_chk c8 (wq_join fun k6 hk6 => ?_)
    have fin : ∀ v, v = stepV (S (b4 + 10) f) (S (b4 + 11) f) (S 63 f) (D f) (S2 a1) → wq (k6 (jset S2 a1 f v)) (fun t v S1 => t = 0 ∧ v = 0 ∧ (∀ q, q ≠ a1 → S1 q = S q) ∧ ∀ f, f < 8 → S1 a1 f = stepV (S (b4 + 10) f) (S (b4 + 11) f) (S 63 f) (D f) (S1 a1)) := fun v hv => by
      rw [hk6]
      refine wq_chk c8 (wq_join fun k20 hk20 => ?_)
      have ea1 : ∀ o, o ≠ f → jset S2 a1 f v a1 o = S2 a1 o := fun o ho => jset_ne (by omega)
      have fin2 : ∀ w : Int32, (w ≠ 0 ↔ v = 0) → wq (k20 w) (fun t v S1 => t = 0 ∧ v = 0 ∧ (∀ q, q ≠ a1 → S1 q = S q) ∧ ∀ f, f < 8 → S1 a1 f = stepV (S (b4 + 10) f) (S (b4 + 11) f) (S 63 f) (D f) (S1 a1)) := fun w hw => by
        rw [hk20]
        dsimp only
        rw [f_withBit, jbin0_s, n32_succ]
        refine wq_let (ih (jset S2 a1 f v, wb z (Int32.ofNat f) w) ⟨fun q hq => ?_, bits_wb hb hf8 (by omega), fun o ho hpo => ?_, fun o ho => ?_⟩)
        · dsimp only
          have : jset S2 a1 f v q = S2 q := if_neg hq
          rw [this]
          exact hf q hq
        · dsimp only
          by_cases hof : o = f
          · rw [hof, jset_at]
            refine hv.trans (stepV_c fun o' ho' hb' => (ea1 o' fun h9 => ?_).symm)
            have := hpos f hf8 o' ho' hb'
            rw [h9] at this
            omega
          · rw [ea1 o hof, hV o ho (hinj o ho hpo hof)]
            refine stepV_c fun o' ho' hb' => (ea1 o' fun h9 => ?_).symm
            have := hpos o ho o' ho' hb'
            rw [h9] at this
            have := hinj o ho hpo hof
            omega
        · dsimp only
          rw [wb_bt (by omega) (by omega)]
          by_cases hof : o = f
          · rw [if_pos hof, hof, jset_at, decide_eq_true_eq, hw]
            exact ⟨fun h => ⟨by omega, h⟩, fun h => h.2⟩
          · rw [if_neg hof, ea1 o hof, hz o ho]
            exact ⟨fun h => ⟨by omega, h.2⟩, fun h => ⟨hinj o ho h.1 hof, h.2⟩⟩
      have e0 : (jset S2 a1 f v a1 f = 0) = (v = 0) := by rw [jset_at]
      refine wq_ite (fun h0 => fin2 1 ?_) (fun h0 => fin2 0 ?_)
      · exact ⟨fun _ => Eq.mp e0 h0, fun _ => by decide⟩
      · exact ⟨fun h => absurd rfl h, fun h => absurd (Eq.mpr e0 h) h0⟩
    have e10 : S2 (b4 + 10) f = S (b4 + 10) f := by rw [hf _ (by omega)]
    have e11 : S2 (b4 + 11) f = S (b4 + 11) f := by rw [hf _ (by omega)]
    have e63 : S2 (62 + 1) f = S 63 f := by rw [hf 63 (by omega)]
    refine wq_ite (fun h0 => wq_chk c8 ?_) (fun h0 => wq_chk c8 (wq_chk c8 (wq_let (fin _ ?_))))
    · rw [e10] at h0
      have elck : (S 63 f &&& z = 0) ↔ lck (S 63 f) (S2 a1) = false := by
        constructor
        · intro h9
          cases el : lck (S 63 f) (S2 a1)
          · rfl
          · exfalso
            obtain ⟨o, ho, h8⟩ := (anyB_iff 8).mp el
            rw [Bool.and_eq_true, decide_eq_true_eq] at h8
            have := congrArg (fun w => bt w o) h9
            simp only [bt_and, h8.1, bt_0, Bool.true_and] at this
            have h7 := (hz o ho).mpr ⟨by have := hpos f hf8 o ho h8.1; omega, h8.2⟩
            rw [h7] at this
            exact absurd this (by decide)
        · intro h9
          refine bt_ext fun j hj => ?_
          rw [bt_and, bt_0]
          by_cases hj8 : j < 8
          · cases e1 : bt (S 63 f) j
            · rfl
            · cases e2 : bt z j
              · rfl
              · exfalso
                have h7 := (hz j hj8).mp e2
                have : lck (S 63 f) (S2 a1) = true := (anyB_iff 8).mpr ⟨j, hj8, by rw [e1, decide_eq_true h7.2]; rfl⟩
                rw [h9] at this
                exact absurd this (by decide)
          · rw [hb j (by omega) hj, Bool.and_false]
      refine wq_ite (fun hn => ?_) (fun hn => wq_chk c8 (wq_let (fin _ ?_)))
      · rw [e63] at hn
        rw [cg_dv ha1 hf ha3 (by omega), hD f hf8, jbin0_s]
        refine wq_chk c8 (wq_let (fin _ ?_))
        unfold stepV
        rw [if_pos h0, if_neg (by rw [elck.mp hn]; decide)]
      · rw [e63] at hn
        unfold stepV
        rw [if_pos h0, if_pos]
        cases el : lck (S 63 f) (S2 a1)
        · exact absurd (elck.mpr el) hn
        · rfl
    · rw [e10] at h0
      unfold stepV
      rw [if_neg h0, e11]
  · obtain ⟨S2, z⟩ := b
    obtain ⟨hf, hb, hV, hz⟩ := hP
    dsimp only at hf hb hV hz ⊢
    refine wq_ite (fun _ => ⟨rfl, rfl, hf, fun f hf8 => hV f hf8 (hO.2 f hf8).1⟩) (fun h => absurd (by decide) h)
theorem n32_div {x c : Nat} (hx : x < 2147483648) (hc : c < 2147483648) : Int32.ofNat x / Int32.ofNat c = Int32.ofNat (x / c) := by
  refine Int32.toInt_inj.mp ?_
  have hdl : x / c ≤ x := Nat.div_le_self x c
  rw [Int32.toInt_div, Int32.toInt_ofNat_of_lt (show x < 2 ^ 31 by omega), Int32.toInt_ofNat_of_lt (show c < 2 ^ 31 by omega), ← Int.ofNat_tdiv]
  generalize x / c = q at hdl ⊢
  rw [Int32.toInt_ofNat_of_lt (by omega), Int.bmod_eq_of_le (by omega) (by omega)]
/-- the model's rounds -/
theorem m_rounds {S G : jS} {a3 : Nat} {pos : Nat → Nat} {V : Nat → Nat → Int32} (hF : IFl S G) (hT : ITr S G) (hP : IPa S G) (hm : ∀ a, a < 6 → G 367 a = S a3 a) (hpos : ∀ i, i < 8 → pos i < 8 ∧ ∀ j, j < 8 → bt (G 375 i) j = true → pos j < pos i)
    (hV : ∀ p, p < 20 → ∀ f, f < 8 → V p f = stepV (G 384 (8 * p + f)) (G 385 (8 * p + f)) (G 375 f) (vv (f_X10_decidedView S (Int32.ofNat p) (Int32.ofNat f) a3 (82 + 12 * p))) (V p)) :
    ∃ G1, loopK (fun (rec2 : jS → Int32 → Option (jR jS)) (S3 : jS) (x4 : Int32) => (if (8 : Int32) ≤ x4 then some (0, (0 : Int32), S3) else loopK (fun (rec5 : jS → Int32 → Option (jR jS)) (S6 : jS) (x7 : Int32) => (if (160 : Int32) ≤ x7 then letE (x4 + (1 : Int32)) fun x8 => rec2 S6 x8 else jbin0 (f_X11_viewNow S6 ((x7 / (8 : Int32))) ((x7 - x7 / (8 : Int32) * (8 : Int32)))) (fun v9 _ => chk (inb x7 160) (letE (jset S6 376 x7.toNatClampNeg v9) fun S10 => letE (x7 + (1 : Int32)) fun x11 => rec5 S10 x11)))) (fun _ _ => none) 1000 S3 (0 : Int32))) (fun _ _ => none) 1000 G (0 : Int32) = some (0, 0, G1) ∧ (∀ q, q ≠ 376 → G1 q = G q) ∧ ∀ p, p < 20 → ∀ f, f < 8 → G1 376 (8 * p + f) = V p f := by
  suffices hw : wq (loopK (fun (rec2 : jS → Int32 → Option (jR jS)) (S3 : jS) (x4 : Int32) => (if (8 : Int32) ≤ x4 then some (0, (0 : Int32), S3) else loopK (fun (rec5 : jS → Int32 → Option (jR jS)) (S6 : jS) (x7 : Int32) => (if (160 : Int32) ≤ x7 then letE (x4 + (1 : Int32)) fun x8 => rec2 S6 x8 else jbin0 (f_X11_viewNow S6 ((x7 / (8 : Int32))) ((x7 - x7 / (8 : Int32) * (8 : Int32)))) (fun v9 _ => chk (inb x7 160) (letE (jset S6 376 x7.toNatClampNeg v9) fun S10 => letE (x7 + (1 : Int32)) fun x11 => rec5 S10 x11)))) (fun _ _ => none) 1000 S3 (0 : Int32))) (fun _ _ => none) 1000 G (0 : Int32)) (fun t v G1 => t = 0 ∧ v = 0 ∧ (∀ q, q ≠ 376 → G1 q = G q) ∧ ∀ p, p < 20 → ∀ f, f < 8 → G1 376 (8 * p + f) = V p f) by
    obtain ⟨t, v, S1, e, rfl, rfl, h⟩ := wq_ex hw
    exact ⟨S1, e, h⟩
  refine wq_for (fun (K : jS → Int32 → Option (jR jS)) i (b : jS) => K b i) 8 (fun r b => (∀ q, q ≠ 376 → b q = G q) ∧ ∀ p, p < 20 → ∀ f, f < 8 → pos f < r → b 376 (8 * p + f) = V p f) (fun rec2 r S3 hr hP3 ih2 => ?_) (fun rec2 S3 hP3 => ?_) 8 0 1000 G (by omega) (by omega) ⟨fun _ _ => rfl, fun p _ f _ h => absurd h (Nat.not_lt_zero _)⟩
  · have e : ((8 : Int32) ≤ Int32.ofNat r) = (8 ≤ r) := n32_le (n := 8) (by omega) (by omega)
    refine wq_ite (fun h => absurd (Eq.mp e h) (by omega)) (fun _ => ?_)
    refine wq_for (fun (K : jS → Int32 → Option (jR jS)) i (b : jS) => K b i) 160 (fun k b => (∀ q, q ≠ 376 → b q = G q) ∧ (∀ p, p < 20 → ∀ f, f < 8 → pos f < r → b 376 (8 * p + f) = V p f) ∧ ∀ p, p < 20 → ∀ f, f < 8 → 8 * p + f < k → pos f ≤ r → b 376 (8 * p + f) = V p f) (fun rec5 k S6 hk hP6 ih5 => ?_) (fun rec5 S6 hP6 => ?_) 160 0 1000 S3 (by omega) (by omega) ⟨hP3.1, hP3.2, fun p _ f _ h => absurd h (Nat.not_lt_zero _)⟩
    · obtain ⟨hf, h1, h2⟩ := hP6
      have e2 : ((160 : Int32) ≤ Int32.ofNat k) = (160 ≤ k) := n32_le (n := 160) (by omega) (by omega)
      refine wq_ite (fun h => absurd (Eq.mp e2 h) (by omega)) (fun _ => ?_)
      obtain ⟨p, f, hp, hf8, rfl⟩ : ∃ p f, p < 20 ∧ f < 8 ∧ k = 8 * p + f := ⟨k / 8, k % 8, by omega, by omega, by omega⟩
      have ed : Int32.ofNat (8 * p + f) / (8 : Int32) = Int32.ofNat p := by
        rw [show (8 : Int32) = Int32.ofNat 8 from rfl, n32_div (by omega) (by omega)]
        congr 1
        omega
      have em : Int32.ofNat (8 * p + f) - Int32.ofNat p * (8 : Int32) = Int32.ofNat f := by
        rw [show (8 : Int32) = Int32.ofNat 8 from rfl, ← Int32.ofNat_mul, n32_subn (by omega)]
        congr 1
        omega
      obtain ⟨D, eD, eN, _⟩ := dv_eq (S := S) (SM := S6) (p := p) (f := f) (a3 := a3) (b4 := 82 + 12 * p) (IFl_c hF (fun _ _ _ _ => rfl) (fun q j _ _ => by rw [hf q (by omega)])) (ITr_c hT (fun _ _ _ _ => rfl) (fun q j hq => by rw [hf q (by omega)])) (by rw [hf 381 (by omega)]; exact (hP p hp).1) (by rw [hf 367 (by omega)]; exact hm) hp hf8
      rw [ed, em, eN, jbin0_s, n32_succ, n32_c (by omega)]
      have hnew : pos f ≤ r → stepV (S6 384 (8 * p + f)) (S6 385 (8 * p + f)) (S6 375 f) D (fun o => S6 376 (8 * p + o)) = V p f := fun hpf => by
        rw [hf 384 (by omega), hf 385 (by omega), hf 375 (by omega), hV p hp f hf8, eD]
        refine stepV_c fun o ho hb => ?_
        exact h1 p hp o ho (by have := (hpos f hf8).2 o ho hb; omega)
      refine wq_chk (n32_inb (by omega) hk) (wq_let (wq_let (ih5 _ ⟨fun q hq => ?_, fun p9 hp9 f9 hf9 hr9 => ?_, fun p9 hp9 f9 hf9 hk9 hr9 => ?_⟩)))
      · refine Eq.trans ?_ (hf q hq)
        exact if_neg hq
      · rw [jset_if]
        by_cases h9 : 8 * p9 + f9 = 8 * p + f
        · have h7 : p9 = p := by omega
          have h8 : f9 = f := by omega
          rw [if_pos ⟨rfl, h9⟩, h7, h8]
          exact hnew (by rw [← h8]; omega)
        · rw [if_neg (fun h => h9 h.2)]
          exact h1 p9 hp9 f9 hf9 hr9
      · rw [jset_if]
        by_cases h9 : 8 * p9 + f9 = 8 * p + f
        · have h7 : p9 = p := by omega
          have h8 : f9 = f := by omega
          rw [if_pos ⟨rfl, h9⟩, h7, h8]
          exact hnew (by rw [← h8]; omega)
        · rw [if_neg (fun h => h9 h.2)]
          exact h2 p9 hp9 f9 hf9 (by omega) hr9
    · refine wq_ite (fun _ => ?_) (fun h => absurd (by decide) h)
      rw [n32_succ]
      exact wq_let (ih2 S6 ⟨hP6.1, fun p hp f hf hpf => hP6.2.2 p hp f hf (by omega) (by omega)⟩)
  · refine wq_ite (fun _ => ⟨rfl, rfl, hP3.1, fun p hp f hf => hP3.2 p hp f hf (hpos f hf).1⟩) (fun h => absurd (by decide) h)
end VWS
