section SHT
theorem f_needsZero {S S2 SM : jS} {L : jLg} (h : InvL S L SM) (h2 : ∀ q, q ≠ 80 → S2 q = S q) {p f : Nat} (hp : p ≤ 19) (hf : f ≤ 7) : ∃ S3, f_X10_needsZero S2 (Int32.ofNat p) (Int32.ofNat f) = some (0, b2i (lck (SM 375 f) (vwM SM p)), S3) ∧ ∀ q, q ≠ 80 → S3 q = S q := by
  obtain ⟨S1, e, a, b⟩ := (inv_views (inv_fr h (fr80 h2) frM_r)).1 p (by omega)
  have h1 : ∀ q, q ≠ 80 → S1 q = S q := fun q hq => (a q hq).trans (h2 q hq)
  refine ⟨S1, ?_, h1⟩
  unfold f_X10_needsZero
  rw [chk_t (in20 hp), n32_c (show p ≤ 1000 by omega), e, jbin0_s]
  have e63 : S1 (62 + 1) (Int32.ofNat f).toNatClampNeg = SM 375 f := by
    rw [n32_c (by omega), h1 63 (by omega)]
    exact (h.2.2.2.2.1.1 f (by omega)).1
  rw [e63]
  suffices hw : wq (loopK (fun (rec3 : Int32 → Option (jR jS)) (x4 : Int32) => (if (8 : Int32) ≤ x4 then chk (isb (0 : Int32)) (some (0, (0 : Int32), S1)) else chk (inb (Int32.ofNat f) 8) (jbin0 (f_X10_hasBit (SM 375 f) x4) (fun v5 _ => joinK (fun (_ : Unit) => letE (x4 + (1 : Int32)) fun x8 => rec3 x8) (fun k6 => (if v5 = (0 : Int32) then k6 () else chk (inb x4 8) ((if (S1 80 x4.toNatClampNeg) = (0 : Int32) then chk (isb (1 : Int32)) (some (0, (1 : Int32), S1)) else k6 ())))))))) (fun _ => none) 1000 (0 : Int32)) (fun t9 v9 S9 => t9 = 0 ∧ v9 = b2i (lck (SM 375 f) (vwM SM p)) ∧ S9 = S1) by
    obtain ⟨t9, v9, S9, e9, rfl, rfl, rfl⟩ := wq_ex hw
    exact e9
  refine wq_for (fun (K : Int32 → Option (jR jS)) i (_ : Unit) => K i) 8 (fun i _ => anyB (fun o => bt (SM 375 f) o && decide (vwM SM p o = 0)) i = false) (fun rec i _ hi hP ih => ?_) (fun rec _ hP => ?_) 8 0 1000 () (by omega) (by omega) rfl
  · have e8 : ((8 : Int32) ≤ Int32.ofNat i) = (8 ≤ i) := n32_le (n := 8) (by omega) (by omega)
    have hs : anyB (fun o => bt (SM 375 f) o && decide (vwM SM p o = 0)) (i + 1) = (anyB (fun o => bt (SM 375 f) o && decide (vwM SM p o = 0)) i || (bt (SM 375 f) i && decide (vwM SM p i = 0))) := rfl
    refine wq_ite (fun h => absurd (Eq.mp e8 h) (by omega)) (fun _ => wq_chk (in8 hf) ?_)
    rw [f_hasBit, jbin0_s, hb_bt (by omega)]
    refine wq_join fun k6 hk6 => ?_
    have fin : (bt (SM 375 f) i && decide (vwM SM p i = 0)) = false → wq (k6 ()) (fun t9 v9 S9 => t9 = 0 ∧ v9 = b2i (lck (SM 375 f) (vwM SM p)) ∧ S9 = S1) := fun hz => by
      rw [hk6]
      dsimp only
      rw [n32_succ]
      refine wq_let (ih () ?_)
      rw [hs, hP, hz]
      rfl
    by_cases hb : bt (SM 375 f) i = true
    · rw [if_pos hb, if_neg (by decide)]
      refine wq_chk (n32_inb (by omega) hi) ?_
      rw [n32_c (show i ≤ 1000 by omega)]
      refine wq_ite (fun hz => wq_chk (by decide) ?_) (fun hz => fin ?_)
      · rw [b i hi] at hz
        have : lck (SM 375 f) (vwM SM p) = true := (anyB_iff 8).mpr ⟨i, hi, by rw [hb, decide_eq_true hz]; rfl⟩
        exact ⟨rfl, by rw [this]; rfl, rfl⟩
      · rw [b i hi] at hz
        rw [decide_eq_false hz, Bool.and_false]
    · rw [if_neg hb, if_pos rfl]
      exact fin (by rw [show bt (SM 375 f) i = false by simpa using hb, Bool.false_and])
  · refine wq_ite (fun _ => wq_chk (by decide) ?_) (fun h => absurd (by decide) h)
    have : lck (SM 375 f) (vwM SM p) = false := hP
    exact ⟨rfl, by rw [this]; rfl, rfl⟩
/-- the trial that shows, in both -/
theorem show_tr {S SM G : jS} {L : jLg} (h : InvL S L SM) {p f : Nat} (hp : p ≤ 19) (hf : f ≤ 7) (hG : frM G SM) (hG367 : ∀ a, a < 6 → G 367 a = S 30 a) (hG376 : ∀ o, o < 8 → G 376 (8 * p + o) = vwM SM p o) :
    ∃ tr x29 : Int32, (∀ S2, (∀ q, q ≠ 80 → S2 q = S q) → ∃ S4, f_X10_trialThatShows S2 (Int32.ofNat p) (Int32.ofNat f) = some (0, tr, S4) ∧ ∀ q, q ≠ 80 → S4 q = S q) ∧
      (∀ R : Int32 → Option (jR jS), joinK (fun (x26 : Int32) => joinK (fun (x29 : Int32) => R x29) (fun k27 => (if x26 = (-1 : Int32) then k27 (-1 : Int32) else chk (inb ((((5 : Int32) * (Int32.ofNat f)) + x26)) 40) (k27 (((G 374 ((((5 : Int32) * (Int32.ofNat f)) + x26)).toNatClampNeg) - (4 : Int32))))))) (fun k16 => joinK (fun (_ : Unit) => k16 (-1 : Int32)) (fun k17 => (if (G 384 (8 * p + f)) = (0 : Int32) then jbin0 (f_X11_lacksNeed G (Int32.ofNat p) (Int32.ofNat f)) (fun v18 _ => (if v18 = (0 : Int32) then jbin0 (f_X11_ruleNow G (Int32.ofNat p) (Int32.ofNat f)) (fun v19 _ => k16 v19) else k17 ())) else k17 ()))) = R x29) ∧
      ((tr = -1 ∧ x29 < 0) ∨ ∃ t, t < 6 ∧ tr = Int32.ofNat t ∧ x29 = Int32.ofNat t ∧ ∃ m, m ≤ 3 ∧ vwM SM p f = Int32.ofNat m) := by
  have hI := inv_fr h frX_r hG
  obtain ⟨g1, g2, g3, g4, g5⟩ := (h.2.2.2.2.2.2.1 p (by omega)).2.2 f (by omega)
  have c8 := in8 hf
  have ef : (Int32.ofNat f).toNatClampNeg = f := n32_c (by omega)
  have ep : (Int32.ofNat p).toNatClampNeg = p := n32_c (by omega)
  have eh : G 384 (8 * p + f) = SM 384 (8 * p + f) := hG 384 _ (by omega)
  have eS : ∀ S2 : jS, (∀ q, q ≠ 80 → S2 q = S q) → S2 ((82 + 12 * p) + 10) f = SM 384 (8 * p + f) := fun S2 h2 => by rw [h2 _ (by omega), g2]
  by_cases h0 : SM 384 (8 * p + f) = 0
  · have elk : f_X11_lacksNeed G (Int32.ofNat p) (Int32.ofNat f) = some (0, b2i (lck (SM 375 f) (vwM SM p)), ()) := by
      rw [m_lacks (by omega) (by omega), hG 375 f (by omega)]
      congr 3
      exact congrArg b2i (lck_c fun o ho _ => hG376 o ho)
    by_cases hl : lck (SM 375 f) (vwM SM p) = true
    · refine ⟨-1, -1, fun S2 h2 => ?_, fun R => ?_, Or.inl ⟨rfl, by decide⟩⟩
      · obtain ⟨S3, e3, h3⟩ := f_needsZero h h2 hp hf
        refine ⟨S3, ?_, h3⟩
        unfold f_X10_trialThatShows joinK
        dsimp only
        rw [chk_t (in20 hp), chk_t c8, ef, ep, eS S2 h2, if_pos h0, e3, jbin0_s, hl, if_neg (by decide)]
      · unfold joinK
        dsimp only
        rw [eh, if_pos h0, elk, jbin0_s, hl, if_neg (by decide), if_pos rfl]
    · have hl : lck (SM 375 f) (vwM SM p) = false := by simpa using hl
      obtain ⟨n, hn, e1, e2, e3⟩ := hI.2.2.2.1 f (by omega)
      have hq9 : ∃ q : Nat → Bool, ∀ k, k < n → ∃ a, a < 6 ∧ G 373 (5 * f + k) = Int32.ofNat a ∧ q k = bt (G 367 a) p := ⟨fun k => bt (G 367 (G 373 (5 * f + k)).toNatClampNeg) p, fun k hk => by
        obtain ⟨_, _, ⟨a, ha, ea⟩, _⟩ := e3 k (by omega)
        exact ⟨a, ha, ea, by dsimp only; rw [ea, n32_c (by omega)]⟩⟩
      obtain ⟨q, hq9⟩ := hq9
      have er := m_ruleNow (p := p) (show f < 8 by omega) (by omega) hn e2 hq9
      have ed : ∀ S2 : jS, (∀ q, q ≠ 80 → S2 q = S q) → f_X3_decidingRule S2 (322 + 3 * f) (Int32.ofNat p) 30 = some (0, dec q n 0, ()) := fun S2 h2 => f_deciding (by omega) hn (by rw [h2 _ (by omega)]; exact e1) (fun k hk => by
        obtain ⟨a, ha, ea, eq⟩ := hq9 k hk
        exact ⟨a, ha, by rw [h2 _ (by omega), show 322 + 3 * f + 1 = 323 + 3 * f by omega, (e3 k (by omega)).1, ea], by rw [eq, hG367 a ha, h2 30 (by omega)]⟩)
      rcases dec_rg (q := q) n 0 with h1 | ⟨k, hk9, h1⟩
      · refine ⟨-1, -1, fun S2 h2 => ?_, fun R => ?_, Or.inl ⟨rfl, by decide⟩⟩
        · obtain ⟨S3, e3, h3⟩ := f_needsZero h h2 hp hf
          refine ⟨S3, ?_, h3⟩
          unfold f_X10_trialThatShows joinK
          dsimp only
          rw [chk_t (in20 hp), chk_t c8, ef, ep, eS S2 h2, if_pos h0, e3, jbin0_s, hl, if_pos (show b2i false = 0 from rfl), chk_t c8, ed S3 h3, jbin0_s, h1, if_pos rfl]
        · unfold joinK
          dsimp only
          rw [eh, if_pos h0, elk, jbin0_s, hl, if_pos (show b2i false = 0 from rfl), er, jbin0_s, h1, if_pos rfl]
      · have hk9 : k < n := by omega
        obtain ⟨_, go, _, o, ho, eo⟩ := e3 k (by omega)
        have et : ∀ S2 : jS, (∀ q, q ≠ 80 → S2 q = S q) → f_X3_trialOf S2 (322 + 3 * f) (Int32.ofNat k) = some (0, (if o < 4 then -1 else Int32.ofNat (o - 4)), ()) := fun S2 h2 => by
          unfold f_X3_trialOf joinK
          rw [f_outcomeOf hn hk9 (by rw [h2 _ (by omega)]; exact e1), jbin0_s, h2 _ (by omega), show 322 + 3 * f + 2 = 324 + 3 * f by omega, go, eo]
          dsimp only
          have e4 : (Int32.ofNat o < (4 : Int32)) = (o < 4) := n32_lt' (n := o) (i := 4) (by omega) (by omega)
          simp only [e4]
          by_cases h4 : o < 4
          · rw [if_pos h4, if_pos h4]
          · rw [if_neg h4, if_neg h4, show Int32.ofNat o - (4 : Int32) = Int32.ofNat (o - 4) from n32_subn (b := 4) (by omega)]
        refine ⟨if o < 4 then -1 else Int32.ofNat (o - 4), Int32.ofNat o - 4, fun S2 h2 => ?_, fun R => ?_, ?_⟩
        · obtain ⟨S3, e3, h3⟩ := f_needsZero h h2 hp hf
          refine ⟨S3, ?_, h3⟩
          unfold f_X10_trialThatShows joinK
          dsimp only
          rw [chk_t (in20 hp), chk_t c8, ef, ep, eS S2 h2, if_pos h0, e3, jbin0_s, hl, if_pos (show b2i false = 0 from rfl), chk_t c8, ed S3 h3, jbin0_s, h1, if_neg (n32_m1 (by omega)), chk_t c8, et S3 h3, jbin0_s]
        · unfold joinK
          dsimp only
          rw [eh, if_pos h0, elk, jbin0_s, hl, if_pos (show b2i false = 0 from rfl), er, jbin0_s, h1, if_neg (n32_m1 (by omega)), n32_5, chk_t (n32_inb (by omega) (by omega)), n32_c (show 5 * f + k ≤ 1000 by omega), eo]
        · by_cases h4 : o < 4
          · left
            rw [if_pos h4]
            refine ⟨rfl, ?_⟩
            have : o = 0 ∨ o = 1 ∨ o = 2 ∨ o = 3 := by omega
            rcases this with rfl | rfl | rfl | rfl <;> decide
          · right
            rw [if_neg h4]
            refine ⟨o - 4, by omega, rfl, n32_subn (b := 4) (by omega), ?_⟩
            obtain ⟨k9, hk99, q1, q2⟩ := (h.2.2.2.2.2.2.1 p (by omega)).1 (o - 4) (by omega)
            obtain ⟨mm, hmm, ec, _⟩ := arm_eq (p := p) h.2.2.2.2.2.1 (show o - 4 < 6 by omega) (by omega) hk99 q1
            refine ⟨mm, hmm, ?_⟩
            obtain ⟨D, eD, eV⟩ := (inv_views h).2.2 p (by omega) f (by omega)
            have : f_X10_decidedView S (Int32.ofNat p) (Int32.ofNat f) 30 (82 + 12 * p) = some (0, Int32.ofNat mm, ()) := by
              unfold f_X10_decidedView joinK
              rw [chk_t c8, ef, ed S (fun _ _ => rfl), jbin0_s, h1, if_neg (n32_m1 (by omega)), chk_t c8, et S (fun _ _ => rfl), jbin0_s, if_neg h4]
              dsimp only
              rw [if_neg (n32_m1 (by omega)), chk_t (n32_inb (by omega) (by omega)), chk_t (n32_inb (by omega) (by omega)), n32_c (show o - 4 ≤ 1000 by omega), q2, ec, jbin0_s]
            rw [this] at eD
            have hD : Int32.ofNat mm = D := by
              have := congrArg (fun o : Option (jR Unit) => o.map fun r => r.2.1) eD
              exact Option.some.inj this
            rw [eV]
            unfold stepV
            rw [if_pos h0, hl, if_neg (by decide), ← hD]
  · refine ⟨-1, -1, fun S2 h2 => ⟨S2, ?_, h2⟩, fun R => ?_, Or.inl ⟨rfl, by decide⟩⟩
    · unfold f_X10_trialThatShows joinK
      dsimp only
      rw [chk_t (in20 hp), chk_t c8, ef, ep, eS S2 h2, if_neg h0]
    · unfold joinK
      dsimp only
      rw [eh, if_neg h0, if_pos rfl]
end SHT
