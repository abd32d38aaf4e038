section DEC
/-- the first of n rules that meets -/
def dec (q : Nat → Bool) : Nat → Nat → Int32
  | 0, _ => -1
  | k + 1, i => if q i = true then Int32.ofNat i else dec q k (i + 1)
theorem dec_rg {q : Nat → Bool} : ∀ k i, dec q k i = -1 ∨ ∃ m, m < i + k ∧ dec q k i = Int32.ofNat m
  | 0, _ => Or.inl rfl
  | k + 1, i => by
    show (if q i = true then Int32.ofNat i else dec q k (i + 1)) = -1 ∨ _
    by_cases h : q i = true
    · right
      refine ⟨i, by omega, ?_⟩
      show (if q i = true then Int32.ofNat i else dec q k (i + 1)) = _
      rw [if_pos h]
    · rw [if_neg h]
      rcases dec_rg (q := q) k (i + 1) with h1 | ⟨m, hm, h1⟩
      · exact Or.inl h1
      · right
        refine ⟨m, by omega, ?_⟩
        show (if q i = true then Int32.ofNat i else dec q k (i + 1)) = _
        rw [if_neg h]
        exact h1
theorem f_deciding {S : jS} {b n p a3 : Nat} {q : Nat → Bool} (hp : p < 20) (hn : n ≤ 5) (hc : S b 2 = Int32.ofNat n) (hr : ∀ k, k < n → ∃ a, a < 6 ∧ S (b + 1) k = Int32.ofNat a ∧ q k = bt (S a3 a) p) : f_X3_decidingRule S b (Int32.ofNat p) a3 = some (0, dec q n 0, ()) := by
  suffices hw : wq (f_X3_decidingRule S b (Int32.ofNat p) a3) (fun t v _ => t = 0 ∧ v = dec q n 0) by
    obtain ⟨t, v, S1, e, rfl, rfl⟩ := wq_ex hw
    exact e
  unfold f_X3_decidingRule
  refine wq_for (fun (K : Int32 → Option (jR Unit)) i (_ : Unit) => K i) n (fun i _ => dec q n 0 = dec q (n - i) i) (fun rec i _ hi hP ih => ?_) (fun rec _ hP => ?_) n 0 1000 () (by omega) (by omega) rfl
  · have e : (Int32.ofNat n ≤ Int32.ofNat i) = (n ≤ i) := n32_le (by omega) (by omega)
    obtain ⟨a, ha, ea, eq⟩ := hr i hi
    rw [hc]
    refine wq_ite (fun h => absurd (Eq.mp e h) (by omega)) (fun _ => wq_chk (n32_inb (by omega) (by omega)) ?_)
    rw [n32_c (show i ≤ 1000 by omega), ea, n32_c (show a ≤ 1000 by omega), f_hasBit, jbin0_s, hb_bt (by omega), ← eq]
    refine wq_chk (n32_inb (by omega) ha) ?_
    obtain ⟨m, hm⟩ : ∃ m, n - i = m + 1 := ⟨n - i - 1, by omega⟩
    have hm2 : n - (i + 1) = m := by omega
    rw [hm] at hP
    by_cases hq : q i = true
    · rw [if_pos hq, if_neg (by decide)]
      refine ⟨rfl, ?_⟩
      rw [hP]
      exact (if_pos hq).symm
    · rw [if_neg hq, if_pos rfl, n32_succ]
      refine wq_let (ih () ?_)
      rw [hP, hm2]
      exact if_neg hq
  · rw [hc]
    refine wq_ite (fun _ => ⟨rfl, ?_⟩) (fun h => absurd (Int32.le_refl _) h)
    rw [hP, Nat.sub_self]
    rfl
theorem m_ruleNow {S : jS} {f n p : Nat} {q : Nat → Bool} (hf : f < 8) (hp : p < 20) (hn : n ≤ 5) (hc : S 372 f = Int32.ofNat n) (hr : ∀ k, k < n → ∃ a, a < 6 ∧ S 373 (5 * f + k) = Int32.ofNat a ∧ q k = bt (S 367 a) p) : f_X11_ruleNow S (Int32.ofNat p) (Int32.ofNat f) = some (0, dec q n 0, ()) := by
  suffices hw : wq (f_X11_ruleNow S (Int32.ofNat p) (Int32.ofNat f)) (fun t v _ => t = 0 ∧ v = dec q n 0) by
    obtain ⟨t, v, S1, e, rfl, rfl⟩ := wq_ex hw
    exact e
  have c8 : inb (Int32.ofNat f) 8 = true := n32_inb (by omega) hf
  unfold f_X11_ruleNow
  rw [n32_c (show f ≤ 1000 by omega), hc]
  refine wq_for (fun (K : Int32 → Option (jR Unit)) i (_ : Unit) => K i) n (fun i _ => dec q n 0 = dec q (n - i) i) (fun rec i _ hi hP ih => ?_) (fun rec _ hP => ?_) n 0 1000 () (by omega) (by omega) rfl
  · have e : (Int32.ofNat n ≤ Int32.ofNat i) = (n ≤ i) := n32_le (by omega) (by omega)
    obtain ⟨a, ha, ea, eq⟩ := hr i hi
    refine wq_chk c8 (wq_ite (fun h => absurd (Eq.mp e h) (by omega)) (fun _ => ?_))
    rw [n32_5, n32_c (show 5 * f + i ≤ 1000 by omega), ea, n32_c (show a ≤ 1000 by omega)]
    refine wq_chk (n32_inb (by omega) (by omega)) (wq_chk (n32_inb (by omega) ha) ?_)
    obtain ⟨m, hm⟩ : ∃ m, n - i = m + 1 := ⟨n - i - 1, by omega⟩
    have hm2 : n - (i + 1) = m := by omega
    rw [hm] at hP
    refine wq_ite (fun hb => ?_) (fun hb => ?_)
    · have hb := Eq.mp (m_bit (show p < 32 by omega)) hb
      rw [← eq] at hb
      refine ⟨rfl, ?_⟩
      rw [hP]
      exact (if_pos hb).symm
    · rw [m_bit (show p < 32 by omega), ← eq] at hb
      rw [n32_succ]
      refine wq_let (ih () ?_)
      rw [hP, hm2]
      exact if_neg hb
  · refine wq_chk c8 (wq_ite (fun _ => ⟨rfl, ?_⟩) (fun h => absurd (Int32.le_refl _) h))
    rw [hP, Nat.sub_self]
    rfl
def anyB (q : Nat → Bool) : Nat → Bool
  | 0 => false
  | n + 1 => anyB q n || q n
theorem anyB_iff {q : Nat → Bool} : ∀ n, anyB q n = true ↔ ∃ k, k < n ∧ q k = true
  | 0 => ⟨fun h => absurd (show false = true from h) (by decide), fun ⟨k, hk, _⟩ => absurd hk (Nat.not_lt_zero _)⟩
  | n + 1 => by
    show (anyB q n || q n) = true ↔ _
    rw [Bool.or_eq_true, anyB_iff n]
    constructor
    · rintro (⟨k, hk, h⟩ | h)
      · exact ⟨k, by omega, h⟩
      · exact ⟨n, by omega, h⟩
    · rintro ⟨k, hk, h⟩
      by_cases hkn : k = n
      · exact Or.inr (hkn ▸ h)
      · exact Or.inl ⟨k, by omega, h⟩
theorem anyB_c {q q1 : Nat → Bool} {n : Nat} (h : ∀ k, k < n → q k = q1 k) : anyB q n = anyB q1 n := by
  induction n with
  | zero => rfl
  | succ n ih =>
    show (anyB q n || q n) = (anyB q1 n || q1 n)
    rw [ih (fun k hk => h k (by omega)), h n (by omega)]
/-- whether a flag lacks what it needs -/
def lck (nd : Int32) (V : Nat → Int32) : Bool := anyB (fun o => bt nd o && decide (V o = 0)) 8
theorem m_lacks {S : jS} {p f : Nat} (hp : p < 20) (hf : f < 8) : f_X11_lacksNeed S (Int32.ofNat p) (Int32.ofNat f) = some (0, b2i (lck (S 375 f) (fun o => S 376 (8 * p + o))), ()) := by
  suffices hw : wq (f_X11_lacksNeed S (Int32.ofNat p) (Int32.ofNat f)) (fun t v _ => t = 0 ∧ v = b2i (lck (S 375 f) (fun o => S 376 (8 * p + o)))) by
    obtain ⟨t, v, S1, e, rfl, rfl⟩ := wq_ex hw
    exact e
  have c8 : inb (Int32.ofNat f) 8 = true := n32_inb (by omega) hf
  unfold f_X11_lacksNeed
  rw [n32_c (show f ≤ 1000 by omega)]
  refine wq_for (fun (K : Int32 → Int32 → Option (jR Unit)) i (x : Int32) => K x i) 8 (fun i x => x = b2i (anyB (fun o => bt (S 375 f) o && decide (S 376 (8 * p + o) = 0)) i)) (fun rec i x hi hx ih => ?_) (fun rec x hx => ?_) 8 0 1000 0 (by omega) (by omega) rfl
  · have e : ((8 : Int32) ≤ Int32.ofNat i) = (8 ≤ i) := n32_le (n := 8) (by omega) (by omega)
    have hs : anyB (fun o => bt (S 375 f) o && decide (S 376 (8 * p + o) = 0)) (i + 1) = (anyB (fun o => bt (S 375 f) o && decide (S 376 (8 * p + o) = 0)) i || (bt (S 375 f) i && decide (S 376 (8 * p + i) = 0))) := rfl
    have e0 : (x = 0) = (anyB (fun o => bt (S 375 f) o && decide (S 376 (8 * p + o) = 0)) i = false) := by rw [hx, b2i_0]
    refine wq_ite (fun h => absurd (Eq.mp e h) (by omega)) (fun _ => wq_join fun k4 hk4 => wq_join fun k5 hk5 => ?_)
    have fin : ∀ v : Bool, v = anyB (fun o => bt (S 375 f) o && decide (S 376 (8 * p + o) = 0)) (i + 1) → wq (k4 (b2i v)) (fun t v _ => t = 0 ∧ v = b2i (lck (S 375 f) (fun o => S 376 (8 * p + o)))) := fun v hv => by
      rw [hk4]
      dsimp only
      rw [n32_succ]
      exact wq_let (ih _ (by rw [hv]))
    have f1 : true = anyB (fun o => bt (S 375 f) o && decide (S 376 (8 * p + o) = 0)) (i + 1) → wq (k5 ()) (fun t v _ => t = 0 ∧ v = b2i (lck (S 375 f) (fun o => S 376 (8 * p + o)))) := by
      rw [hk5]
      exact fin true
    refine wq_ite (fun h0 => ?_) (fun h0 => f1 ?_)
    · have h0 := Eq.mp e0 h0
      refine wq_chk c8 (wq_join fun k6 hk6 => ?_)
      have f0 : false = anyB (fun o => bt (S 375 f) o && decide (S 376 (8 * p + o) = 0)) (i + 1) → wq (k6 ()) (fun t v _ => t = 0 ∧ v = b2i (lck (S 375 f) (fun o => S 376 (8 * p + o)))) := by
        rw [hk6]
        exact fin false
      refine wq_ite (fun hb => ?_) (fun hb => f0 ?_)
      · have hb := Eq.mp (m_bit (show i < 32 by omega)) hb
        rw [n32_8, n32_c (show 8 * p + i ≤ 1000 by omega)]
        refine wq_chk (n32_inb (by omega) (by omega)) (wq_ite (fun hz => f1 ?_) (fun hz => f0 ?_))
        · rw [hs, hb, decide_eq_true hz, Bool.and_self, Bool.or_true]
        · rw [hs, h0, decide_eq_false hz, Bool.and_false, Bool.or_self]
      · rw [m_bit (show i < 32 by omega)] at hb
        rw [hs, h0, show bt (S 375 f) i = false by simpa using hb, Bool.false_and, Bool.or_self]
    · rw [e0] at h0
      rw [hs, show anyB (fun o => bt (S 375 f) o && decide (S 376 (8 * p + o) = 0)) i = true by simpa using h0, Bool.true_or]
  · refine wq_ite (fun _ => wq_chk (by rw [hx]; exact b2i_isb) ⟨rfl, hx⟩) (fun h => absurd (by decide) h)
/-- a view, out of the others -/
def stepV (ho fz nd D : Int32) (V : Nat → Int32) : Int32 := if ho = 0 then (if lck nd V = true then 0 else D) else fz
theorem f_outcomeOf {S : jS} {b n k : Nat} (hn : n ≤ 5) (hk : k < n) (hc : S b 2 = Int32.ofNat n) : f_X3_outcomeOf S b (Int32.ofNat k) = some (0, S (b + 2) k, ()) := by
  have e : (Int32.ofNat n ≤ Int32.ofNat k) = (n ≤ k) := n32_le (by omega) (by omega)
  unfold f_X3_outcomeOf joinK
  dsimp only
  rw [hc]
  simp only [e]
  rw [if_neg (n32_nn (by omega)), if_neg (by omega), chk_t (n32_inb (by omega) (by omega)), n32_c (by omega)]
/-- the view that the rules decide: in both -/
theorem dv_eq {S SM : jS} {p f a3 b4 : Nat} (hF : IFl S SM) (hT : ITr S SM) (hk : ∀ t, t < 6 → ∃ k, k ≤ 4 ∧ SM 381 (20 * t + p) = Int32.ofNat k ∧ S (b4 + 1) t = Int32.ofNat k - 1) (hm : ∀ a, a < 6 → SM 367 a = S a3 a) (hp : p < 20) (hf : f < 8) :
    ∃ D, f_X10_decidedView S (Int32.ofNat p) (Int32.ofNat f) a3 b4 = some (0, D, ()) ∧ f_X11_viewNow SM (Int32.ofNat p) (Int32.ofNat f) = some (0, stepV (SM 384 (8 * p + f)) (SM 385 (8 * p + f)) (SM 375 f) D (fun o => SM 376 (8 * p + o)), ()) ∧ ∃ m, m ≤ 3 ∧ D = Int32.ofNat m := by
  have c8 : inb (Int32.ofNat f) 8 = true := n32_inb (by omega) hf
  obtain ⟨n, hn, e1, e2, e3⟩ := hF f hf
  have hq : ∃ q : Nat → Bool, ∀ k, k < n → ∃ a, a < 6 ∧ SM 373 (5 * f + k) = Int32.ofNat a ∧ q k = bt (SM 367 a) p := ⟨fun k => bt (SM 367 (SM 373 (5 * f + k)).toNatClampNeg) p, fun k hk => by
    obtain ⟨_, _, ⟨a, ha, ea⟩, _⟩ := e3 k (by omega)
    exact ⟨a, ha, ea, by dsimp only; rw [ea, n32_c (by omega)]⟩⟩
  obtain ⟨q, hq⟩ := hq
  have er := m_ruleNow hf hp hn e2 hq
  have ed : f_X3_decidingRule S (322 + 3 * f) (Int32.ofNat p) a3 = some (0, dec q n 0, ()) := f_deciding hp hn e1 (fun k hk => by
    obtain ⟨a, ha, ea, eq⟩ := hq k hk
    exact ⟨a, ha, by rw [show 322 + 3 * f + 1 = 323 + 3 * f by omega, (e3 k (by omega)).1, ea], by rw [eq, hm a ha]⟩)
  have eV : ∀ D, (dec q n 0 = -1 → D = 0) → (∀ k, k < n → dec q n 0 = Int32.ofNat k → ∃ o, o < 10 ∧ SM 374 (5 * f + k) = Int32.ofNat o ∧ ((o < 4 ∧ D = Int32.ofNat o) ∨ (4 ≤ o ∧ f_X11_armNow SM (Int32.ofNat (o - 4)) (Int32.ofNat p) = some (0, D, ())))) → f_X11_viewNow SM (Int32.ofNat p) (Int32.ofNat f) = some (0, stepV (SM 384 (8 * p + f)) (SM 385 (8 * p + f)) (SM 375 f) D (fun o => SM 376 (8 * p + o)), ()) := fun D hD1 hD2 => by
    unfold f_X11_viewNow letE stepV
    dsimp only
    rw [n32_8, chk_t (n32_inb (by omega) (by omega)), chk_t (n32_inb (by omega) (by omega)), n32_c (show 8 * p + f ≤ 1000 by omega)]
    by_cases h0 : SM 384 (8 * p + f) = 0
    · rw [if_pos h0, if_pos h0, m_lacks hp hf, jbin0_s]
      unfold joinK
      simp only [b2i_0]
      by_cases hl : lck (SM 375 f) (fun o => SM 376 (8 * p + o)) = true
      · rw [if_neg (by rw [hl]; decide), if_pos hl, if_pos trivial, if_neg (by decide)]
      · rw [if_pos (by simpa using hl), if_neg hl, er, jbin0_s]
        rcases dec_rg (q := q) n 0 with h1 | ⟨m, hm9, h1⟩
        · rw [h1, if_pos rfl, if_neg (by decide), hD1 h1]
        · have hm9 : m < n := by omega
          obtain ⟨o, ho, eo, hD⟩ := hD2 m hm9 h1
          rw [h1, if_neg (n32_m1 (by omega)), n32_5, chk_t (n32_inb (by omega) (by omega)), n32_c (show 5 * f + m ≤ 1000 by omega), eo]
          have e4 : ((4 : Int32) ≤ Int32.ofNat o) = (4 ≤ o) := n32_le (n := 4) (by omega) (by omega)
          simp only [e4]
          rcases hD with ⟨ho4, hD⟩ | ⟨ho4, hD⟩
          · rw [if_neg (by omega), hD]
          · rw [if_pos ho4, show Int32.ofNat o - (4 : Int32) = Int32.ofNat (o - 4) from n32_subn (b := 4) ho4, hD, jbin0_s]
    · rw [if_neg h0, if_neg h0]
  rcases dec_rg (q := q) n 0 with h1 | ⟨m, hm9, h1⟩
  · refine ⟨0, ?_, eV 0 (fun _ => rfl) (fun k hk h2 => absurd (h1.symm.trans h2).symm (n32_m1 (by omega))), 0, by omega, rfl⟩
    unfold f_X10_decidedView
    rw [chk_t c8, n32_c (by omega), ed, jbin0_s, h1, if_pos rfl]
  · have hm9 : m < n := by omega
    obtain ⟨_, go, _, o, ho, eo⟩ := e3 m (by omega)
    have et : f_X3_trialOf S (322 + 3 * f) (Int32.ofNat m) = some (0, (if o < 4 then -1 else Int32.ofNat (o - 4)), ()) := by
      unfold f_X3_trialOf joinK
      rw [f_outcomeOf hn hm9 e1, jbin0_s, show 322 + 3 * f + 2 = 324 + 3 * f by omega, go, eo]
      dsimp only
      have e4 : (Int32.ofNat o < (4 : Int32)) = (o < 4) := n32_lt' (n := o) (i := 4) (by omega) (by omega)
      simp only [e4]
      by_cases h4 : o < 4
      · rw [if_pos h4, if_pos h4]
      · rw [if_neg h4, if_neg h4, show Int32.ofNat o - (4 : Int32) = Int32.ofNat (o - 4) from n32_subn (b := 4) (by omega)]
    by_cases h4 : o < 4
    · refine ⟨Int32.ofNat o, ?_, eV _ (fun h2 => absurd (h1.symm.trans h2) (n32_m1 (by omega))) (fun k hk h2 => ?_), o, by omega, rfl⟩
      · unfold f_X10_decidedView joinK
        rw [chk_t c8, n32_c (by omega), ed, jbin0_s, h1, if_neg (n32_m1 (by omega)), chk_t c8, et, jbin0_s, if_pos h4]
        dsimp only
        rw [if_pos rfl, chk_t c8, f_outcomeOf hn hm9 e1, jbin0_s, show 322 + 3 * f + 2 = 324 + 3 * f by omega, go, eo]
      · have : m = k := n32_inj (by omega) (by omega) (h1.symm.trans h2)
        subst this
        exact ⟨o, ho, eo, Or.inl ⟨h4, rfl⟩⟩
    · obtain ⟨k9, hk9, g1, g2⟩ := hk (o - 4) (by omega)
      obtain ⟨mm, hmm, ec, em⟩ := arm_eq (p := p) hT (show o - 4 < 6 by omega) hp hk9 g1
      refine ⟨Int32.ofNat mm, ?_, eV _ (fun h2 => absurd (h1.symm.trans h2) (n32_m1 (by omega))) (fun k hk h2 => ?_), mm, hmm, rfl⟩
      · unfold f_X10_decidedView joinK
        rw [chk_t c8, n32_c (show f ≤ 1000 by omega), ed, jbin0_s, h1, if_neg (n32_m1 (by omega)), chk_t c8, et, jbin0_s, if_neg h4]
        dsimp only
        rw [if_neg (n32_m1 (by omega)), chk_t (n32_inb (by omega) (by omega)), chk_t (n32_inb (by omega) (by omega)), n32_c (show o - 4 ≤ 1000 by omega), g2, ec, jbin0_s]
      · have : m = k := n32_inj (by omega) (by omega) (h1.symm.trans h2)
        subst this
        exact ⟨o, ho, eo, Or.inr ⟨by omega, em⟩⟩
end DEC
