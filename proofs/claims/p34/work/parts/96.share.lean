section SHR
theorem tr_sh {S SM : jS} {t : Nat} (h : ITr S SM) (ht : t < 6) : ∃ sh : Nat → Nat, ∀ v, v < 4 → SM 378 (4 * t + v) = Int32.ofNat (sh v) ∧ sh v ≤ 100 ∧ S (347 + 2 * t) v = Int32.ofNat (sh v) := by
  obtain ⟨_, _, _, _, _, h6⟩ := h t ht
  obtain ⟨g0, s0, l0, q0⟩ := h6 0 (by omega)
  obtain ⟨g1, s1, l1, q1⟩ := h6 1 (by omega)
  obtain ⟨g2, s2, l2, q2⟩ := h6 2 (by omega)
  obtain ⟨g3, s3, l3, q3⟩ := h6 3 (by omega)
  refine ⟨fun v => if v = 0 then s0 else if v = 1 then s1 else if v = 2 then s2 else s3, fun v hv => ?_⟩
  have hv : v = 0 ∨ v = 1 ∨ v = 2 ∨ v = 3 := by omega
  rcases hv with rfl | rfl | rfl | rfl
  · exact ⟨q0, l0, g0.trans q0⟩
  · exact ⟨q1, l1, g1.trans q1⟩
  · exact ⟨q2, l2, g2.trans q2⟩
  · exact ⟨q3, l3, g3.trans q3⟩
theorem arm_same {S SM : jS} {L : jLg} (h : InvL S L SM) {t p : Nat} (ht : t ≤ 5) (hp : p ≤ 19) : f_X11_armNow SM (Int32.ofNat t) (Int32.ofNat p) = f_X10_armNow S (Int32.ofNat t) (Int32.ofNat p) ∧ ∃ m, m ≤ 3 ∧ f_X10_armNow S (Int32.ofNat t) (Int32.ofNat p) = some (0, Int32.ofNat m, ()) := by
  obtain ⟨m, hm, ec, em⟩ := f_armNow h ht hp
  exact ⟨em.trans ec.symm, m, hm, ec⟩
theorem in_100 {p : Int32} (h : 0 ≤ p ∧ p ≤ 100) : ∃ s, s ≤ 100 ∧ p = Int32.ofNat s := n32_rg (n := 100) (by omega) h
theorem n32_4m {t : Nat} : (4 : Int32) * Int32.ofNat t = Int32.ofNat (4 * t) := by
  rw [Int32.ofNat_mul]
  rfl
/-- 18: setShares -/
theorem ag_18 {S SM : jS} {L : jLg} (h : InvL S L SM) : ∀ p1 p2 p3 p4 p5, AGv (f_X10_setShares S p1 p2 p3 p4 p5) 1 2 0 (f_X11_setShares SM p1 p2 p3 p4 p5) (fun S1 SM1 => InvL S1 L SM1) := fun p1 p2 p3 p4 p5 => by
  by_cases hall : (0 ≤ p1 ∧ p1 ≤ 5) ∧ (0 ≤ p2 ∧ p2 ≤ 100) ∧ (0 ≤ p3 ∧ p3 ≤ 100) ∧ (0 ≤ p4 ∧ p4 ≤ 100) ∧ (0 ≤ p5 ∧ p5 ≤ 100)
  · obtain ⟨hp, h2, h3, h4, h5⟩ := hall
    obtain ⟨t, ht, rfl⟩ := n32_rg (n := 5) (by omega) hp
    obtain ⟨s2, hs2, rfl⟩ := in_100 h2
    obtain ⟨s3, hs3, rfl⟩ := in_100 h3
    obtain ⟨s4, hs4, rfl⟩ := in_100 h4
    obtain ⟨s5, hs5, rfl⟩ := in_100 h5
    obtain ⟨sh, hsh⟩ := tr_sh h.2.2.2.2.2.1 (show t < 6 by omega)
    have em0 : f_X11_setShares SM (Int32.ofNat t) (Int32.ofNat s2) (Int32.ofNat s3) (Int32.ofNat s4) (Int32.ofNat s5) = if SM 383 t = 0 then some (0, Int32.ofNat (ssum sh 4), jset (jset (jset (jset (jset SM 358 0 0) 378 (4 * t) (Int32.ofNat s2)) 378 (4 * t + 1) (Int32.ofNat s3)) 378 (4 * t + 2) (Int32.ofNat s4)) 378 (4 * t + 3) (Int32.ofNat s5)) else some (0, 0, jset SM 358 0 2) := by
      unfold f_X11_setShares joinK letE
      rw [m_trial, jbin0_s, rg_1 hp]
      dsimp only
      rw [if_neg (by decide), m_in, jbin0_s, rg_1 h2, if_neg (by decide), m_in, jbin0_s, rg_1 h3, if_neg (by decide), m_in, jbin0_s, rg_1 h4, if_neg (by decide), m_in, jbin0_s, rg_1 h5, if_neg (by decide), if_neg (by decide), chk_t (in6 ht), n32_c (show t ≤ 1000 by omega)]
      by_cases hz : SM 383 t = 0
      · rw [if_pos hz, if_pos hz, m_w0, jbin0_s, if_neg (by decide), n32_4m, n32_succ, show Int32.ofNat (4 * t) + (2 : Int32) = Int32.ofNat (4 * t + 2) from n32_add 2, show Int32.ofNat (4 * t) + (3 : Int32) = Int32.ofNat (4 * t + 3) from n32_add 3]
        rw [chk_t (n32_inb (by omega) (by omega)), chk_t (n32_inb (by omega) (by omega)), chk_t (n32_inb (by omega) (by omega)), chk_t (n32_inb (by omega) (by omega)), chk_t (n32_inb (by omega) (by omega)), chk_t (n32_inb (by omega) (by omega)), chk_t (n32_inb (by omega) (by omega)), chk_t (n32_inb (by omega) (by omega))]
        rw [n32_c (show 4 * t ≤ 1000 by omega), n32_c (show 4 * t + 1 ≤ 1000 by omega), n32_c (show 4 * t + 2 ≤ 1000 by omega), n32_c (show 4 * t + 3 ≤ 1000 by omega)]
        have g0 : jset SM 358 0 0 378 (4 * t) = Int32.ofNat (sh 0) := by rw [jset_ne (by omega)]; exact (hsh 0 (by omega)).1
        have g1 : jset SM 358 0 0 378 (4 * t + 1) = Int32.ofNat (sh 1) := by rw [jset_ne (by omega)]; exact (hsh 1 (by omega)).1
        have g2 : jset SM 358 0 0 378 (4 * t + 2) = Int32.ofNat (sh 2) := by rw [jset_ne (by omega)]; exact (hsh 2 (by omega)).1
        have g3 : jset SM 358 0 0 378 (4 * t + 3) = Int32.ofNat (sh 3) := by rw [jset_ne (by omega)]; exact (hsh 3 (by omega)).1
        rw [g0, g1, g2, g3, n32_addn, n32_addn, n32_addn]
        have e4 : ssum sh 4 = sh 0 + sh 1 + sh 2 + sh 3 := by
          show 0 + sh 0 + sh 1 + sh 2 + sh 3 = _
          omega
        rw [e4]
      · rw [if_neg hz, if_neg hz, m_w2, jbin0_s, if_pos rfl]
    by_cases hz : SM 383 t = 0
    · refine AGv_ok (v := Int32.ofNat (ssum sh 4)) (S1 := jset (jset (jset (jset S (346 + 2 * t + 1) 0 (Int32.ofNat s2)) (346 + 2 * t + 1) 1 (Int32.ofNat s3)) (346 + 2 * t + 1) 2 (Int32.ofNat s4)) (346 + 2 * t + 1) 3 (Int32.ofNat s5)) (SM1 := jset (jset (jset (jset (jset SM 358 0 0) 378 (4 * t) (Int32.ofNat s2)) 378 (4 * t + 1) (Int32.ofNat s3)) 378 (4 * t + 2) (Int32.ofNat s4)) 378 (4 * t + 3) (Int32.ofNat s5)) ?_ (by rw [em0, if_pos hz]) ?_ ?_ (n32_big (Nat.le_trans (ssum_le (fun v hv => (hsh v hv).2.1) 4 (by omega)) (by omega)))
      · unfold f_X10_setShares
        rw [f_tri_y hp, jbind_s, f_rng_y h2, jbind_s, f_rng_y h3, jbind_s, f_rng_y h4, jbind_s, f_rng_y h5, jbind_s, f_nh h ht, if_pos hz, jbind_s, chk_t (in6 ht), n32_c (show t ≤ 1000 by omega), f_sum (sh := sh) (fun v hv => by rw [show 346 + 2 * t + 1 = 347 + 2 * t by omega]; exact (hsh v hv).2.2), jbin0_s, chk_t (in6 ht)]
        rfl
      · rw [jset_ne (by omega), jset_ne (by omega), jset_ne (by omega), jset_ne (by omega), jset_at]
      · refine inv_tr h (fun q j hq => by rw [jset_ne (by omega), jset_ne (by omega), jset_ne (by omega), jset_ne (by omega)]) (fun q j hq => by rw [jset_ne (by omega), jset_ne (by omega), jset_ne (by omega), jset_ne (by omega), jset_ne (by omega)]) (fun t9 ht9 => ?_)
        obtain ⟨k1, k2, k3, k4, k5, k6⟩ := h.2.2.2.2.2.1 t9 ht9
        have eo : ∀ q j, q ≠ 378 → q ≠ 358 → jset (jset (jset (jset (jset SM 358 0 0) 378 (4 * t) (Int32.ofNat s2)) 378 (4 * t + 1) (Int32.ofNat s3)) 378 (4 * t + 2) (Int32.ofNat s4)) 378 (4 * t + 3) (Int32.ofNat s5) q j = SM q j := fun q j h1 h2 => by rw [jset_ne (by omega), jset_ne (by omega), jset_ne (by omega), jset_ne (by omega), jset_ne (by omega)]
        have es : ∀ j, jset (jset (jset (jset S (346 + 2 * t + 1) 0 (Int32.ofNat s2)) (346 + 2 * t + 1) 1 (Int32.ofNat s3)) (346 + 2 * t + 1) 2 (Int32.ofNat s4)) (346 + 2 * t + 1) 3 (Int32.ofNat s5) (346 + 2 * t9) j = S (346 + 2 * t9) j := fun j => by rw [jset_ne (by omega), jset_ne (by omega), jset_ne (by omega), jset_ne (by omega)]
        rw [es, es, es, eo 379 t9 (by omega) (by omega), eo 380 t9 (by omega) (by omega), eo 383 t9 (by omega) (by omega)]
        refine ⟨k1, k2, k3, k4, k5, fun v hv => ?_⟩
        by_cases htt : t9 = t
        · subst htt
          have hv4 : v = 0 ∨ v = 1 ∨ v = 2 ∨ v = 3 := by omega
          rcases hv4 with rfl | rfl | rfl | rfl
          · rw [show 4 * t9 + 0 = 4 * t9 from rfl, show 347 + 2 * t9 = 346 + 2 * t9 + 1 by omega, jset_ne (by omega), jset_ne (by omega), jset_ne (by omega), jset_at, jset_ne (by omega), jset_ne (by omega), jset_ne (by omega), jset_at]
            exact ⟨rfl, s2, hs2, rfl⟩
          · rw [show 347 + 2 * t9 = 346 + 2 * t9 + 1 by omega, jset_ne (by omega), jset_ne (by omega), jset_at, jset_ne (by omega), jset_ne (by omega), jset_at]
            exact ⟨rfl, s3, hs3, rfl⟩
          · rw [show 347 + 2 * t9 = 346 + 2 * t9 + 1 by omega, jset_ne (by omega), jset_at, jset_ne (by omega), jset_at]
            exact ⟨rfl, s4, hs4, rfl⟩
          · rw [show 347 + 2 * t9 = 346 + 2 * t9 + 1 by omega, jset_at, jset_at]
            exact ⟨rfl, s5, hs5, rfl⟩
        · rw [jset_ne (by omega), jset_ne (by omega), jset_ne (by omega), jset_ne (by omega), jset_ne (by omega), jset_ne (by omega), jset_ne (by omega), jset_ne (by omega), jset_ne (by omega)]
          exact k6 v hv
    · refine AGv_2 (v := 0) (v2 := 0) (S1 := S) (SM1 := jset SM 358 0 2) ?_ (by rw [em0, if_neg hz]) jset_at (by decide) (inv_thr h)
      unfold f_X10_setShares
      rw [f_tri_y hp, jbind_s, f_rng_y h2, jbind_s, f_rng_y h3, jbind_s, f_rng_y h4, jbind_s, f_rng_y h5, jbind_s, f_nh h ht, if_neg hz]
      rfl
  · refine AGv_1 (v := 0) (v2 := 0) (S1 := S) (SM1 := jset SM 358 0 1) ?_ ?_ jset_at (by decide) (inv_thr h)
    · unfold f_X10_setShares
      by_cases hp : 0 ≤ p1 ∧ p1 ≤ 5
      · rw [f_tri_y hp, jbind_s]
        by_cases h2 : 0 ≤ p2 ∧ p2 ≤ 100
        · rw [f_rng_y h2, jbind_s]
          by_cases h3 : 0 ≤ p3 ∧ p3 ≤ 100
          · rw [f_rng_y h3, jbind_s]
            by_cases h4 : 0 ≤ p4 ∧ p4 ≤ 100
            · rw [f_rng_y h4, jbind_s, f_rng_n (fun h5 => hall ⟨hp, h2, h3, h4, h5⟩), jbind_t]
            · rw [f_rng_n h4, jbind_t]
          · rw [f_rng_n h3, jbind_t]
        · rw [f_rng_n h2, jbind_t]
      · rw [f_tri_n hp, jbind_t]
    · unfold f_X11_setShares joinK letE
      rw [m_trial, jbin0_s]
      dsimp only
      by_cases hp : 0 ≤ p1 ∧ p1 ≤ 5
      · rw [rg_1 hp, if_neg (by decide), m_in, jbin0_s]
        by_cases h2 : 0 ≤ p2 ∧ p2 ≤ 100
        · rw [rg_1 h2, if_neg (by decide), m_in, jbin0_s]
          by_cases h3 : 0 ≤ p3 ∧ p3 ≤ 100
          · rw [rg_1 h3, if_neg (by decide), m_in, jbin0_s]
            by_cases h4 : 0 ≤ p4 ∧ p4 ≤ 100
            · rw [rg_1 h4, if_neg (by decide), m_in, jbin0_s, rg_0 (fun h5 => hall ⟨hp, h2, h3, h4, h5⟩), if_pos rfl, if_pos rfl, m_w1, jbin0_s, if_pos rfl]
            · rw [rg_0 h4, if_pos rfl, if_pos rfl, m_w1, jbin0_s, if_pos rfl]
          · rw [rg_0 h3, if_pos rfl, if_pos rfl, m_w1, jbin0_s, if_pos rfl]
        · rw [rg_0 h2, if_pos rfl, if_pos rfl, m_w1, jbin0_s, if_pos rfl]
      · rw [rg_0 hp, if_pos rfl, if_pos rfl, m_w1, jbin0_s, if_pos rfl]
def vv (o : Option (jR Unit)) : Int32 := match o with
  | some (_, v, _) => v
  | none => 0
/-- 20: stop -/
theorem ag_20 {S SM : jS} {L : jLg} (h : InvL S L SM) : ∀ p1 p2, AGv (f_X10_stop S p1 p2) 1 2 0 (f_X11_stop SM p1 p2) (fun S1 SM1 => InvL S1 L SM1) := fun p1 p2 => by
  by_cases hp : 0 ≤ p1 ∧ p1 ≤ 5
  · by_cases hq : 0 ≤ p2 ∧ p2 ≤ 3
    · obtain ⟨t, ht, rfl⟩ := n32_rg (n := 5) (by omega) hp
      obtain ⟨v, hv, rfl⟩ := n32_rg (n := 3) (by omega) hq
      by_cases hz : SM 383 t = 0
      · have cnt_le : ∀ i, i ≤ 20 → cntB (fun p => decide (vv (f_X10_armNow S (Int32.ofNat t) (Int32.ofNat p)) ≠ Int32.ofNat v)) i ≤ i := fun i _ => by
          have := cntB_le (p := fun p => decide (vv (f_X10_armNow S (Int32.ofNat t) (Int32.ofNat p)) ≠ Int32.ofNat v)) (q := fun _ => true) i (fun _ _ _ => rfl)
          rwa [cntB_all] at this
        refine AGv_ok (v := Int32.ofNat (cntB (fun p => decide (vv (f_X10_armNow S (Int32.ofNat t) (Int32.ofNat p)) ≠ Int32.ofNat v)) 20)) (S1 := jset S (346 + 2 * t) 2 (Int32.ofNat v)) (SM1 := jset (jset SM 358 0 0) 380 t (Int32.ofNat (v + 1))) ?_ ?_ ?_ ?_ (n32_big (Nat.le_trans cntB_le9 (by decide)))
        · unfold f_X10_stop
          rw [f_tri_y hp, jbind_s, f_var_y hq, jbind_s, f_nh h ht, if_pos hz, jbind_s]
          suffices hw : wq (loopK (fun (rec1 : Int32 → Int32 → Option (jR jS)) (x2 : Int32) (x3 : Int32) => (if (20 : Int32) ≤ x3 then chk (inb (Int32.ofNat t) 6) (letE (jset S (346 + 2 * (Int32.ofNat t).toNatClampNeg) 2 (Int32.ofNat v)) fun S5 => some (0, x2, S5)) else jbin0 (f_X10_armNow S (Int32.ofNat t) x3) (fun v6 _ => joinK (fun (x9 : Int32) => letE (x3 + (1 : Int32)) fun x10 => rec1 x9 x10) (fun k7 => (if v6 = Int32.ofNat v then k7 x2 else letE (x2 + (1 : Int32)) fun x8 => k7 x8))))) (fun _ _ => none) 1000 (0 : Int32) (0 : Int32)) (fun t9 v9 S9 => t9 = 0 ∧ v9 = Int32.ofNat (cntB (fun p => decide (vv (f_X10_armNow S (Int32.ofNat t) (Int32.ofNat p)) ≠ Int32.ofNat v)) 20) ∧ S9 = jset S (346 + 2 * t) 2 (Int32.ofNat v)) by
            obtain ⟨t9, v9, S9, e, rfl, rfl, rfl⟩ := wq_ex hw
            exact e
          refine wq_for (fun (K : Int32 → Int32 → Option (jR jS)) i (b : Int32) => K b i) 20 (fun i x => x = Int32.ofNat (cntB (fun p => decide (vv (f_X10_armNow S (Int32.ofNat t) (Int32.ofNat p)) ≠ Int32.ofNat v)) i)) (fun rec i x hi hx ih => ?_) (fun rec x hx => ?_) 20 0 1000 0 (by omega) (by omega) rfl
          · have e : ((20 : Int32) ≤ Int32.ofNat i) = (20 ≤ i) := n32_le (n := 20) (by omega) (by omega)
            refine wq_ite (fun h => absurd (Eq.mp e h) (by omega)) (fun _ => ?_)
            obtain ⟨_, m, hm, em⟩ := arm_same h ht (show i ≤ 19 by omega)
            have evv : vv (f_X10_armNow S (Int32.ofNat t) (Int32.ofNat i)) = Int32.ofNat m := by rw [em]; rfl
            rw [em, jbin0_s]
            refine wq_join fun k7 hk7 => ?_
            have hc : cntB (fun p => decide (vv (f_X10_armNow S (Int32.ofNat t) (Int32.ofNat p)) ≠ Int32.ofNat v)) (i + 1) = cntB (fun p => decide (vv (f_X10_armNow S (Int32.ofNat t) (Int32.ofNat p)) ≠ Int32.ofNat v)) i + if decide (vv (f_X10_armNow S (Int32.ofNat t) (Int32.ofNat i)) ≠ Int32.ofNat v) = true then 1 else 0 := rfl
            rw [evv] at hc
            refine wq_ite (fun hmv => ?_) (fun hmv => ?_)
            · rw [hk7]
              dsimp only
              rw [n32_succ]
              refine wq_let (ih _ ?_)
              rw [hc, hx, if_neg (by simpa using hmv)]
              rfl
            · rw [hk7]
              refine wq_let ?_
              rw [n32_succ]
              refine wq_let (ih _ ?_)
              rw [hc, hx, n32_succ, if_pos (by simpa using hmv)]
          · refine wq_ite (fun _ => wq_chk (in6 ht) (wq_let ?_)) (fun h => absurd (by decide) h)
            rw [n32_c (by omega)]
            exact ⟨rfl, hx, rfl⟩
        · unfold f_X11_stop joinK
          rw [m_trial, jbin0_s, rg_1 hp]
          dsimp only
          rw [if_neg (by decide), m_variant, jbin0_s, rg_1 hq, if_neg (by decide), if_neg (by decide), chk_t (in6 ht), n32_c (show t ≤ 1000 by omega), if_pos hz, m_w0, jbin0_s, if_neg (by decide)]
          suffices hw : wq (loopK (fun (rec14 : Int32 → Int32 → Option (jR jS)) (x15 : Int32) (x16 : Int32) => (if (20 : Int32) ≤ x16 then chk (inb (Int32.ofNat t) 6) (letE (jset (jset SM 358 0 0) 380 t (Int32.ofNat v + (1 : Int32))) fun S17 => some (0, x15, S17)) else jbin0 (f_X11_armNow (jset SM 358 0 0) (Int32.ofNat t) x16) (fun v19 _ => (if v19 = Int32.ofNat v then letE (x15 + (0 : Int32)) fun x22 => letE (x16 + (1 : Int32)) fun x23 => rec14 x22 x23 else letE (x15 + (1 : Int32)) fun x22 => letE (x16 + (1 : Int32)) fun x23 => rec14 x22 x23)))) (fun _ _ => none) 1000 (0 : Int32) (0 : Int32)) (fun t9 v9 S9 => t9 = 0 ∧ v9 = Int32.ofNat (cntB (fun p => decide (vv (f_X10_armNow S (Int32.ofNat t) (Int32.ofNat p)) ≠ Int32.ofNat v)) 20) ∧ S9 = jset (jset SM 358 0 0) 380 t (Int32.ofNat (v + 1))) by
            obtain ⟨t9, v9, S9, e, rfl, rfl, rfl⟩ := wq_ex hw
            exact e
          refine wq_for (fun (K : Int32 → Int32 → Option (jR jS)) i (b : Int32) => K b i) 20 (fun i x => x = Int32.ofNat (cntB (fun p => decide (vv (f_X10_armNow S (Int32.ofNat t) (Int32.ofNat p)) ≠ Int32.ofNat v)) i)) (fun rec i x hi hx ih => ?_) (fun rec x hx => ?_) 20 0 1000 0 (by omega) (by omega) rfl
          · have e : ((20 : Int32) ≤ Int32.ofNat i) = (20 ≤ i) := n32_le (n := 20) (by omega) (by omega)
            refine wq_ite (fun h => absurd (Eq.mp e h) (by omega)) (fun _ => ?_)
            obtain ⟨es, m, hm, em⟩ := arm_same (inv_thr (c := 0) h) ht (show i ≤ 19 by omega)
            have evv : vv (f_X10_armNow S (Int32.ofNat t) (Int32.ofNat i)) = Int32.ofNat m := by rw [em]; rfl
            rw [es, em, jbin0_s]
            have hc : cntB (fun p => decide (vv (f_X10_armNow S (Int32.ofNat t) (Int32.ofNat p)) ≠ Int32.ofNat v)) (i + 1) = cntB (fun p => decide (vv (f_X10_armNow S (Int32.ofNat t) (Int32.ofNat p)) ≠ Int32.ofNat v)) i + if decide (vv (f_X10_armNow S (Int32.ofNat t) (Int32.ofNat i)) ≠ Int32.ofNat v) = true then 1 else 0 := rfl
            rw [evv] at hc
            rw [n32_succ]
            refine wq_ite (fun hmv => wq_let (wq_let (ih _ ?_))) (fun hmv => wq_let (wq_let (ih _ ?_)))
            · rw [hc, hx, Int32.add_zero, if_neg (by simpa using hmv)]
              rfl
            · rw [hc, hx, n32_succ, if_pos (by simpa using hmv)]
          · refine wq_ite (fun _ => wq_chk (in6 ht) (wq_let ?_)) (fun h => absurd (by decide) h)
            rw [n32_succ]
            exact ⟨rfl, hx, rfl⟩
        · rw [jset_ne (by omega), jset_at]
        · refine inv_tr h (fun q j hq => jset_ne (by omega)) (fun q j hq => by rw [jset_ne (by omega), jset_ne (by omega)]) (fun t9 ht9 => ?_)
          obtain ⟨g1, g2, g3, g4, g5, g6⟩ := h.2.2.2.2.2.1 t9 ht9
          rw [jset_ne (q := 346 + 2 * t9) (j := 1) (by omega), jset_ne (q := 346 + 2 * t9) (j := 3) (by omega), jset_ne (q := 379) (by omega), jset_ne (q := 379) (by omega), jset_ne (q := 383) (by omega), jset_ne (q := 383) (by omega)]
          refine ⟨g1, g2, ?_, g4, g5, fun v hv => ?_⟩
          · by_cases htt : t9 = t
            · subst htt
              refine ⟨v + 1, by omega, jset_at, ?_⟩
              rw [jset_at, n32_pred (by omega), Nat.add_sub_cancel]
            · rw [jset_ne (q := 380) (by omega), jset_ne (q := 380) (by omega), jset_ne (by omega)]
              exact g3
          · rw [jset_ne (by omega), jset_ne (by omega), jset_ne (by omega)]
            exact g6 v hv
      · refine AGv_2 (v := 0) (v2 := 0) (S1 := S) (SM1 := jset SM 358 0 2) ?_ ?_ jset_at (by decide) (inv_thr h)
        · unfold f_X10_stop
          rw [f_tri_y hp, jbind_s, f_var_y hq, jbind_s, f_nh h ht, if_neg hz]
          rfl
        · unfold f_X11_stop joinK
          rw [m_trial, jbin0_s, rg_1 hp]
          dsimp only
          rw [if_neg (by decide), m_variant, jbin0_s, rg_1 hq, if_neg (by decide), if_neg (by decide), chk_t (in6 ht), n32_c (show t ≤ 1000 by omega), if_neg hz, m_w2, jbin0_s, if_pos rfl]
    · refine AGv_1 (v := 0) (v2 := 0) (S1 := S) (SM1 := jset SM 358 0 1) ?_ ?_ jset_at (by decide) (inv_thr h)
      · unfold f_X10_stop
        rw [f_tri_y hp, jbind_s, f_var_n hq, jbind_t]
      · unfold f_X11_stop joinK
        rw [m_trial, jbin0_s, rg_1 hp]
        dsimp only
        rw [if_neg (by decide), m_variant, jbin0_s, rg_0 hq, if_pos rfl, if_pos rfl, m_w1, jbin0_s, if_pos rfl]
  · refine AGv_1 (v := 0) (v2 := 0) (S1 := S) (SM1 := jset SM 358 0 1) ?_ ?_ jset_at (by decide) (inv_thr h)
    · unfold f_X10_stop
      rw [f_tri_n hp, jbind_t]
    · unfold f_X11_stop joinK
      rw [m_trial, jbin0_s, rg_0 hp]
      dsimp only
      rw [if_pos rfl, if_pos rfl, m_w1, jbin0_s, if_pos rfl]
end SHR
