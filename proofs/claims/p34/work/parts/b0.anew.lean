section ANW
theorem not_m1 {t : Nat} {a b c d : Int32} : ent5 a (-1) b c d 1 = -1 ∨ ent5 a (-1) b c d 1 = Int32.ofNat t := Or.inl rfl
theorem m_beginAnew {S : jS} {t : Nat} (ht : t ≤ 5) (hk : ∀ p, p < 20 → ∃ k, k ≤ 4 ∧ S 381 (20 * t + p) = Int32.ofNat k) (hh : S 383 t = 0) (hl : S 358 30 ≠ 400) : ∃ S1, f_X11_beginAnew S (Int32.ofNat t) = some (0, Int32.ofNat (cntB (fun p => decide (S 381 (20 * t + p) ≠ 0)) 20), S1) ∧ S1 358 0 = 0 ∧ S1 358 30 = S 358 30 + 1 ∧ (∀ j, S1 381 j = if 20 * t ≤ j ∧ j < 20 * t + 20 then 0 else S 381 j) ∧ (∀ j, S1 382 j = if 160 * t ≤ j ∧ j < 160 * t + 160 then 0 else S 382 j) ∧ (∀ j, S1 380 j = if j = t then 0 else S 380 j) ∧ ∀ q j, q ≠ 358 → q ≠ 380 → q ≠ 381 → q ≠ 382 → S1 q j = S q j := by
  suffices hw : wq (f_X11_beginAnew S (Int32.ofNat t)) (fun t9 v S1 => t9 = 0 ∧ v = Int32.ofNat (cntB (fun p => decide (S 381 (20 * t + p) ≠ 0)) 20) ∧ S1 358 0 = 0 ∧ S1 358 30 = S 358 30 + 1 ∧ (∀ j, S1 381 j = if 20 * t ≤ j ∧ j < 20 * t + 20 then 0 else S 381 j) ∧ (∀ j, S1 382 j = if 160 * t ≤ j ∧ j < 160 * t + 160 then 0 else S 382 j) ∧ (∀ j, S1 380 j = if j = t then 0 else S 380 j) ∧ ∀ q j, q ≠ 358 → q ≠ 380 → q ≠ 381 → q ≠ 382 → S1 q j = S q j) by
    obtain ⟨t9, v, S1, e, rfl, rfl, h⟩ := wq_ex hw
    exact ⟨S1, e, h⟩
  have hp : (0 : Int32) ≤ Int32.ofNat t ∧ Int32.ofNat t ≤ 5 := rg_le (n := 5) ht (by omega)
  have ct : (Int32.ofNat t).toNatClampNeg = t := n32_c (by omega)
  unfold f_X11_beginAnew
  rw [m_trial, jbin0_s, rg_1 hp]
  refine wq_join fun k2 hk2 => wq_ite (fun h => absurd h (by decide)) (fun _ => wq_chk (in6 ht) (wq_join fun k3 hk3 => ?_))
  rw [ct, if_pos hh, if_neg hl, hk2]
  dsimp only
  rw [m_w0, jbin0_s, if_neg (by decide)]
  refine wq_for (fun (K : jS → Int32 → Int32 → Option (jR jS)) i (b : jS × Int32) => K b.1 b.2 i) 20 (fun i b => b.2 = Int32.ofNat (cntB (fun p => decide (S 381 (20 * t + p) ≠ 0)) i) ∧ b.1 358 0 = 0 ∧ b.1 358 30 = S 358 30 ∧ (∀ j, b.1 381 j = if 20 * t ≤ j ∧ j < 20 * t + i then 0 else S 381 j) ∧ ∀ q j, q ≠ 358 → q ≠ 381 → b.1 q j = S q j) (fun rec8 i b hi hP ih => ?_) (fun rec8 b hP => ?_) 20 0 1000 (jset S 358 0 0, 0) (by omega) (by omega) ⟨rfl, show jset S 358 0 0 358 0 = 0 from jset_at, by show jset S 358 0 0 358 30 = _; exact jset_ne (by omega), fun j => by rw [if_neg (by omega)]; show jset S 358 0 0 381 j = _; exact jset_ne (by omega), fun q j h1 h2 => by show jset S 358 0 0 q j = _; exact jset_ne (by omega)⟩
  · obtain ⟨S9, x⟩ := b
    obtain ⟨hx, h0, h30, h381, hf⟩ := hP
    dsimp only at hx h0 h30 h381 hf ⊢
    have e20 : ((20 : Int32) ≤ Int32.ofNat i) = (20 ≤ i) := n32_le (n := 20) (by omega) (by omega)
    have hs : cntB (fun p => decide (S 381 (20 * t + p) ≠ 0)) (i + 1) = cntB (fun p => decide (S 381 (20 * t + p) ≠ 0)) i + if decide (S 381 (20 * t + i) ≠ 0) = true then 1 else 0 := rfl
    obtain ⟨k, hk9, ek⟩ := hk i hi
    have e9 : S9 381 (20 * t + i) = Int32.ofNat k := by rw [h381, if_neg (by omega), ek]
    refine wq_ite (fun h => absurd (Eq.mp e20 h) (by omega)) (fun _ => ?_)
    rw [n32_20]
    refine wq_chk (n32_inb (by omega) (by omega)) (wq_join fun k21 hk21 => ?_)
    rw [n32_c (show 20 * t + i ≤ 1000 by omega)]
    have ek0 : (S9 381 (20 * t + i) ≤ (0 : Int32)) = (k ≤ 0) := by
      rw [e9]
      exact n32_le (n := k) (i := 0) (by omega) (by omega)
    have ekz : (Int32.ofNat k = (0 : Int32)) = (k = 0) := n32_eq (b := 0) (by omega) (by omega)
    have fin : ∀ y : Nat, y = (if decide (S 381 (20 * t + i) ≠ 0) = true then 1 else 0) → wq (k21 (Int32.ofNat y)) (fun t9 v S1 => t9 = 0 ∧ v = Int32.ofNat (cntB (fun p => decide (S 381 (20 * t + p) ≠ 0)) 20) ∧ S1 358 0 = 0 ∧ S1 358 30 = S 358 30 + 1 ∧ (∀ j, S1 381 j = if 20 * t ≤ j ∧ j < 20 * t + 20 then 0 else S 381 j) ∧ (∀ j, S1 382 j = if 160 * t ≤ j ∧ j < 160 * t + 160 then 0 else S 382 j) ∧ (∀ j, S1 380 j = if j = t then 0 else S 380 j) ∧ ∀ q j, q ≠ 358 → q ≠ 380 → q ≠ 381 → q ≠ 382 → S1 q j = S q j) := fun y hy => by
      rw [hk21]
      dsimp only
      rw [n32_succ, n32_c (show 20 * t + i ≤ 1000 by omega)]
      refine wq_let (wq_chk (n32_inb (by omega) (by omega)) (wq_let (wq_let ?_)))
      refine ih (jset S9 381 (20 * t + i) 0, x + Int32.ofNat y) ⟨?_, ?_, ?_, fun j => ?_, fun q j h1 h2 => ?_⟩
      · dsimp only
        rw [hs, hx, n32_addn, hy]
      · dsimp only
        rw [jset_ne (by omega)]
        exact h0
      · dsimp only
        rw [jset_ne (by omega)]
        exact h30
      · dsimp only
        rw [jset_if]
        by_cases hj : j = 20 * t + i
        · rw [if_pos ⟨rfl, hj⟩, if_pos (by omega)]
        · rw [if_neg (fun h => hj h.2), h381]
          by_cases h9 : 20 * t ≤ j ∧ j < 20 * t + i
          · rw [if_pos h9, if_pos (by omega)]
          · rw [if_neg h9, if_neg (by omega)]
      · dsimp only
        rw [jset_ne (by omega)]
        exact hf q j h1 h2
    refine wq_ite (fun hz => fin 0 ?_) (fun hz => fin 1 ?_)
    · have hz := Eq.mp ek0 hz
      have : S 381 (20 * t + i) = 0 := by rw [ek, show k = 0 by omega]; rfl
      rw [this]
      rfl
    · have hz : ¬ k ≤ 0 := fun h9 => hz (Eq.mpr ek0 h9)
      have : S 381 (20 * t + i) ≠ 0 := by rw [ek]; exact fun h => hz (by rw [ekz] at h; omega)
      rw [if_pos (decide_eq_true this)]
  · obtain ⟨S9, x⟩ := b
    obtain ⟨hx, h0, h30, h381, hf⟩ := hP
    dsimp only at hx h0 h30 h381 hf ⊢
    refine wq_ite (fun _ => ?_) (fun h => absurd (by decide) h)
    refine wq_for (fun (K : jS → Int32 → Option (jR jS)) i (b : jS) => K b i) 160 (fun i S3 => S3 358 0 = 0 ∧ S3 358 30 = S 358 30 ∧ (∀ j, S3 381 j = if 20 * t ≤ j ∧ j < 20 * t + 20 then 0 else S 381 j) ∧ (∀ j, S3 382 j = if 160 * t ≤ j ∧ j < 160 * t + i then 0 else S 382 j) ∧ ∀ q j, q ≠ 358 → q ≠ 381 → q ≠ 382 → S3 q j = S q j) (fun rec12 i S3 hi hP ih => ?_) (fun rec12 S3 hP => ?_) 160 0 1000 S9 (by omega) (by omega) ⟨h0, h30, h381, fun j => by rw [if_neg (by omega)]; exact hf 382 j (by omega) (by omega), fun q j h1 h2 h3 => hf q j h1 h2⟩
    · obtain ⟨a0, a30, a381, a382, af⟩ := hP
      have e1 : ((160 : Int32) ≤ Int32.ofNat i) = (160 ≤ i) := n32_le (n := 160) (by omega) (by omega)
      refine wq_ite (fun h => absurd (Eq.mp e1 h) (by omega)) (fun _ => ?_)
      rw [n32_160, n32_succ, n32_c (show 160 * t + i ≤ 1000 by omega)]
      refine wq_chk (n32_inb (by omega) (by omega)) (wq_let (wq_let (ih _ ⟨?_, ?_, fun j => ?_, fun j => ?_, fun q j h1 h2 h3 => ?_⟩)))
      · rw [jset_ne (by omega)]
        exact a0
      · rw [jset_ne (by omega)]
        exact a30
      · rw [jset_ne (by omega)]
        exact a381 j
      · rw [jset_if]
        by_cases hj : j = 160 * t + i
        · rw [if_pos ⟨rfl, hj⟩, if_pos (by omega)]
        · rw [if_neg (fun h => hj h.2), a382]
          by_cases h9 : 160 * t ≤ j ∧ j < 160 * t + i
          · rw [if_pos h9, if_pos (by omega)]
          · rw [if_neg h9, if_neg (by omega)]
      · rw [jset_ne (by omega)]
        exact af q j h1 h2 h3
    · obtain ⟨a0, a30, a381, a382, af⟩ := hP
      refine wq_ite (fun _ => wq_chk (in6 ht) (wq_let (wq_let ?_))) (fun h => absurd (by decide) h)
      rw [ct]
      refine ⟨rfl, hx, ?_, ?_, fun j => ?_, fun j => ?_, fun j => ?_, fun q j h1 h2 h3 h4 => ?_⟩
      · rw [jset_ne (by omega), jset_ne (by omega)]
        exact a0
      · rw [jset_at, jset_ne (by omega), a30]
      · rw [jset_ne (by omega), jset_ne (by omega)]
        exact a381 j
      · rw [jset_ne (by omega), jset_ne (by omega)]
        exact a382 j
      · rw [jset_ne (by omega), jset_if]
        by_cases hj : j = t
        · rw [if_pos ⟨rfl, hj⟩, if_pos hj]
        · rw [if_neg (fun h => hj h.2), if_neg hj]
          exact af 380 j (by omega) (by omega) (by omega)
      · rw [jset_ne (by omega), jset_ne (by omega)]
        exact af q j h1 h3 h4
/-- 21: beginAnew -/
theorem ag_21 {S SM : jS} {L : jLg} (h : InvL S L SM) : ∀ p1, AGv (f_X10_beginAnew S L p1) 1 2 0 (f_X11_beginAnew SM p1) (fun S1 SM1 => InvL S1.1 S1.2 SM1) := fun p1 => by
  by_cases hp : 0 ≤ p1 ∧ p1 ≤ 5
  · obtain ⟨t, ht, rfl⟩ := n32_rg (n := 5) (by omega) hp
    obtain ⟨hlog, hlogM⟩ := f_log h (S2 := S)
    obtain ⟨r1, r2, r3, r4, r5, r6⟩ := h.2.2.2.2.2.1 t (by omega)
    by_cases hc : SM 383 t = 0 ∧ L.length < 400
    · have hkp : ∀ p, p < 20 → ∃ k, k ≤ 4 ∧ SM 381 (20 * t + p) = Int32.ofNat k ∧ S (82 + 12 * p + 1) t = Int32.ofNat k - 1 := fun p hp => (h.2.2.2.2.2.2.1 p hp).1 t (by omega)
      obtain ⟨SM1, em, m0, m30, m381, m382, m380, mf⟩ := m_beginAnew ht (fun p hp => by
        obtain ⟨k, a, b, _⟩ := hkp p hp
        exact ⟨k, a, b⟩) hc.1 (fun h9 => hlogM.mp h9 hc.2)
      have hT : ITr (jset S (346 + 2 * t) 2 (-1)) SM1 := fun t9 ht9 => by
        obtain ⟨q1, q2, q3, q4, q5, q6⟩ := h.2.2.2.2.2.1 t9 ht9
        rw [jset_ne (j := 1) (by omega), jset_ne (j := 3) (by omega), mf 379 _ (by omega) (by omega) (by omega) (by omega), mf 383 _ (by omega) (by omega) (by omega) (by omega), m380]
        refine ⟨q1, q2, ?_, q4, q5, fun v hv => ?_⟩
        · by_cases htt : t9 = t
          · rw [if_pos htt, htt, jset_at]
            exact ⟨0, by omega, rfl, rfl⟩
          · rw [if_neg htt, jset_ne (by omega)]
            exact q3
        · rw [jset_ne (by omega), mf 378 _ (by omega) (by omega) (by omega) (by omega)]
          exact q6 v hv
      obtain ⟨S1, ee, _, _, hI⟩ := inv_enter (S2 := jset S (346 + 2 * t) 2 (-1)) (SM1 := SM1) (e := ent5 6 (-1) (-1) (Int32.ofNat t) (-1)) h (fun q hq _ => if_neg (by omega)) ⟨(Or.inr (Or.inr (Or.inr (Or.inr (Or.inr (Or.inr ⟨rfl, t, by omega, rfl⟩)))))), fun h9 => absurd (show (6 : Int32) = 0 ∨ (6 : Int32) = 1 ∨ (6 : Int32) = 2 from h9) (by decide)⟩ hc.2 (fun q j hq => mf q j (by omega) (by omega) (by omega) (by omega)) (by rw [m30, h.2.2.2.2.2.2.2.2.1, n32_succ]) hT (fun p hp99 => by
        rw [if_pos not_m1]
        obtain ⟨o1, o2, o3⟩ := IP1_pers h hp99
        have htk : ∀ r j, tk (ent5 6 (-1) (-1) (Int32.ofNat t) (-1)) (getP (82 + 12 * p) S) r j = (if r = 1 ∧ j = t then -1 else if r = 3 + t ∧ j < 8 then -1 else getP (82 + 12 * p) S r j) := fun r j => by
          have ct : (ent5 6 (-1) (-1) (Int32.ofNat t) (-1) 3).toNatClampNeg = t := n32_c (k := t) (by omega)
          unfold tk
          have e0 : ent5 6 (-1) (-1) (Int32.ofNat t) (-1) 0 = 6 := rfl
          rw [e0, if_neg (by decide), if_neg (by decide), if_neg (by decide), if_neg (by decide), if_neg (by decide), ct]
        refine ⟨fun t9 ht9 => ?_, fun t9 ht9 f9 hf9 => ?_, fun f9 hf9 => ?_⟩
        · rw [htk, m381, Nat.zero_add]
          by_cases htt : t9 = t
          · rw [if_pos (by omega), if_pos ⟨rfl, htt⟩]
            exact ⟨0, by omega, rfl, rfl⟩
          · rw [if_neg (by omega), if_neg (fun h => htt h.2), if_neg (by omega)]
            have := o1 t9 ht9
            rw [Nat.zero_add] at this
            exact this
        · rw [htk, m382, Nat.zero_add, if_neg (by omega)]
          by_cases htt : t9 = t
          · rw [if_pos (by omega), if_pos (by omega)]
            rfl
          · rw [if_neg (by omega), if_neg (by omega)]
            have := o2 t9 ht9 f9 hf9
            rw [Nat.zero_add] at this
            exact this
        · have := o3 f9 hf9
          rw [Nat.zero_add, Nat.zero_add, Nat.zero_add] at this
          rw [Nat.zero_add, Nat.zero_add, Nat.zero_add, htk, htk, htk, if_neg (show ¬ (9 = 1 ∧ f9 = t) by omega), if_neg (show ¬ (9 = 3 + t ∧ f9 < 8) by omega), if_neg (show ¬ (10 = 1 ∧ f9 = t) by omega), if_neg (show ¬ (10 = 3 + t ∧ f9 < 8) by omega), if_neg (show ¬ (11 = 1 ∧ f9 = t) by omega), if_neg (show ¬ (11 = 3 + t ∧ f9 < 8) by omega), mf 386 _ (by omega) (by omega) (by omega) (by omega), mf 384 _ (by omega) (by omega) (by omega) (by omega), mf 385 _ (by omega) (by omega) (by omega) (by omega)]
          obtain ⟨c1, c2, c3, c4, c5⟩ := this
          exact ⟨c1, c2, c3, c4, fun t9 ht9 h9 => c5 t9 ht9 (by rw [← mf 383 t9 (by omega) (by omega) (by omega) (by omega)]; exact h9)⟩)
      refine AGv_ok (v := Int32.ofNat (cntB (fun p => decide (SM 381 (20 * t + p) ≠ 0)) 20)) (S1 := (S1, L ++ [ent5 6 (-1) (-1) (Int32.ofNat t) (-1)])) (SM1 := SM1) ?_ em m0 hI (n32_big (Nat.le_trans cntB_le9 (by decide)))
      unfold f_X10_beginAnew
      rw [f_tri_y hp, jbind_s, f_nh h ht, if_pos hc.1, jbind_s, hlog, if_pos hc.2, jbind_s]
      suffices hw : wq (loopK (fun (rec1 : Int32 → Int32 → Option (jR jSL)) (x2 : Int32) (x3 : Int32) => (if (20 : Int32) ≤ x3 then chk (inb (Int32.ofNat t) 6) (letE (jset S (346 + 2 * (Int32.ofNat t).toNatClampNeg) 2 (-1 : Int32)) fun S5 => jbin0 (f_X10_enter S5 L (ent5 (6 : Int32) (-1 : Int32) (-1 : Int32) (Int32.ofNat t) (-1 : Int32))) (fun _ S7 => some (0, x2, (S7.1, S7.2)))) else chk (inb x3 20) (chk (inb (Int32.ofNat t) 6) (joinK (fun (x15 : Int32) => letE (x3 + (1 : Int32)) fun x16 => rec1 x15 x16) (fun k13 => (if (S ((82 + 12 * x3.toNatClampNeg) + 1) (Int32.ofNat t).toNatClampNeg) = (-1 : Int32) then k13 x2 else letE (x2 + (1 : Int32)) fun x14 => k13 x14)))))) (fun _ _ => none) 1000 (0 : Int32) (0 : Int32)) (fun t9 v9 S9 => t9 = 0 ∧ v9 = Int32.ofNat (cntB (fun p => decide (SM 381 (20 * t + p) ≠ 0)) 20) ∧ S9 = (S1, L ++ [ent5 6 (-1) (-1) (Int32.ofNat t) (-1)])) by
        obtain ⟨t9, v9, S9, e, rfl, rfl, rfl⟩ := wq_ex hw
        exact e
      rw [n32_c (show t ≤ 1000 by omega)]
      refine wq_for (fun (K : Int32 → Int32 → Option (jR jSL)) i (b : Int32) => K b i) 20 (fun i x => x = Int32.ofNat (cntB (fun p => decide (SM 381 (20 * t + p) ≠ 0)) i)) (fun rec i x hi hx ih => ?_) (fun rec x hx => ?_) 20 0 1000 0 (by omega) (by omega) rfl
      · have e : ((20 : Int32) ≤ Int32.ofNat i) = (20 ≤ i) := n32_le (n := 20) (by omega) (by omega)
        have hs : cntB (fun p => decide (SM 381 (20 * t + p) ≠ 0)) (i + 1) = cntB (fun p => decide (SM 381 (20 * t + p) ≠ 0)) i + if decide (SM 381 (20 * t + i) ≠ 0) = true then 1 else 0 := rfl
        obtain ⟨k, hk4, ek1, ek2⟩ := hkp i hi
        have ekz : (Int32.ofNat k = (0 : Int32)) = (k = 0) := n32_eq (b := 0) (by omega) (by omega)
        refine wq_ite (fun h => absurd (Eq.mp e h) (by omega)) (fun _ => wq_chk (n32_inb (by omega) hi) (wq_chk (in6 ht) (wq_join fun k13 hk13 => ?_)))
        rw [n32_c (show i ≤ 1000 by omega), ek2]
        refine wq_ite (fun hz => ?_) (fun hz => ?_)
        · rw [n32_dec (by omega)] at hz
          rw [hk13]
          dsimp only
          rw [n32_succ]
          refine wq_let (ih _ ?_)
          rw [hs, hx, ek1, hz]
          rfl
        · rw [n32_dec (by omega)] at hz
          rw [hk13]
          refine wq_let ?_
          rw [n32_succ]
          refine wq_let (ih _ ?_)
          rw [hs, hx, ek1, n32_succ, if_pos (decide_eq_true (by rw [ne_eq, ekz]; exact hz))]
      · refine wq_ite (fun _ => wq_chk (in6 ht) (wq_let ?_)) (fun h => absurd (by decide) h)
        rw [ee, jbin0_s]
        exact ⟨rfl, hx, rfl⟩
    · refine AGv_2 (v := 0) (v2 := 0) (S1 := (S, L)) (SM1 := jset SM 358 0 2) ?_ ?_ jset_at (by decide) (inv_thr h)
      · unfold f_X10_beginAnew
        rw [f_tri_y hp, jbind_s, f_nh h ht]
        by_cases hz : SM 383 t = 0
        · rw [if_pos hz, jbind_s, hlog, if_neg (fun h9 => hc ⟨hz, h9⟩)]
          rfl
        · rw [if_neg hz]
          rfl
      · unfold f_X11_beginAnew joinK
        rw [m_trial, jbin0_s, rg_1 hp]
        dsimp only
        rw [if_neg (by decide), chk_t (in6 ht), n32_c (show t ≤ 1000 by omega)]
        by_cases hz : SM 383 t = 0
        · rw [if_pos hz, if_pos (hlogM.mpr fun h9 => hc ⟨hz, h9⟩), m_w2, jbin0_s, if_pos rfl]
        · rw [if_neg hz, m_w2, jbin0_s, if_pos rfl]
  · refine AGv_1 (v := 0) (v2 := 0) (S1 := (S, L)) (SM1 := jset SM 358 0 1) ?_ ?_ jset_at (by decide) (inv_thr h)
    · unfold f_X10_beginAnew
      rw [f_tri_n hp, jbind_t]
    · unfold f_X11_beginAnew joinK
      rw [m_trial, jbin0_s, rg_0 hp]
      dsimp only
      rw [if_pos rfl, m_w1, jbin0_s, if_pos rfl]
end ANW
