section HTR
theorem cntB_add {q : Nat → Bool} {a : Nat} : ∀ b, cntB q (a + b) = cntB q a + cntB (fun f => q (a + f)) b
  | 0 => rfl
  | b + 1 => by
    have ih := cntB_add (q := q) (a := a) b
    show cntB q (a + b) + (if q (a + b) = true then 1 else 0) = cntB q a + (cntB (fun f => q (a + f)) b + (if q (a + b) = true then 1 else 0))
    rw [ih]
    omega
theorem cntB_c {q q1 : Nat → Bool} : ∀ n, (∀ k, k < n → q k = q1 k) → cntB q n = cntB q1 n
  | 0, _ => rfl
  | n + 1, h => by
    show cntB q n + (if q n = true then 1 else 0) = cntB q1 n + (if q1 n = true then 1 else 0)
    rw [cntB_c n (fun k hk => h k (by omega)), h n (by omega)]
theorem f_cntBy {S : jS} {b t : Nat} (ht : t < 32) : f_X5_countHeldBy S b (Int32.ofNat t) = some (0, Int32.ofNat (cntB (fun f => bt (S (b + 10) f) t) 8), ()) := by
  suffices hw : wq (f_X5_countHeldBy S b (Int32.ofNat t)) (fun t9 v _ => t9 = 0 ∧ v = Int32.ofNat (cntB (fun f => bt (S (b + 10) f) t) 8)) by
    obtain ⟨t9, v, S1, e, rfl, rfl⟩ := wq_ex hw
    exact e
  unfold f_X5_countHeldBy
  refine wq_for (fun (K : Int32 → Int32 → Option (jR Unit)) i (b : Int32) => K b i) 8 (fun i x => x = Int32.ofNat (cntB (fun f => bt (S (b + 10) f) t) i)) (fun rec i x hi hx ih => ?_) (fun rec x hx => ?_) 8 0 1000 0 (by omega) (by omega) rfl
  · have e : ((8 : Int32) ≤ Int32.ofNat i) = (8 ≤ i) := n32_le (n := 8) (by omega) (by omega)
    have hs : cntB (fun f => bt (S (b + 10) f) t) (i + 1) = cntB (fun f => bt (S (b + 10) f) t) i + if bt (S (b + 10) i) t = true then 1 else 0 := rfl
    refine wq_ite (fun h => absurd (Eq.mp e h) (by omega)) (fun _ => wq_chk (n32_inb (by omega) hi) ?_)
    rw [n32_c (show i ≤ 1000 by omega), f_hasBit, jbin0_s, hb_bt ht]
    refine wq_join fun k5 hk5 => ?_
    have fin : ∀ y : Nat, y = (if bt (S (b + 10) i) t = true then 1 else 0) → wq (k5 (Int32.ofNat y)) (fun t9 v _ => t9 = 0 ∧ v = Int32.ofNat (cntB (fun f => bt (S (b + 10) f) t) 8)) := fun y hy => by
      rw [hk5]
      dsimp only
      rw [n32_succ]
      refine wq_let (wq_let (ih _ ?_))
      rw [hs, hx, n32_addn, hy]
    by_cases hb : bt (S (b + 10) i) t = true
    · rw [if_pos hb, if_neg (by decide)]
      exact fin 1 (by rw [if_pos hb])
    · rw [if_neg hb, if_pos rfl]
      exact fin 0 (by rw [if_neg hb])
  · exact wq_ite (fun _ => ⟨rfl, hx⟩) (fun h => absurd (by decide) h)
theorem f_cntOnly {S : jS} {b : Nat} {p : Int32} : f_X5_countHeldOnlyBy S b p = some (0, Int32.ofNat (cntB (fun f => decide (S (b + 10) f = ((1 : Int32) <<< (p &&& 31)))) 8), ()) := by
  suffices hw : wq (f_X5_countHeldOnlyBy S b p) (fun t9 v _ => t9 = 0 ∧ v = Int32.ofNat (cntB (fun f => decide (S (b + 10) f = ((1 : Int32) <<< (p &&& 31)))) 8)) by
    obtain ⟨t9, v, S1, e, rfl, rfl⟩ := wq_ex hw
    exact e
  unfold f_X5_countHeldOnlyBy
  refine wq_for (fun (K : Int32 → Int32 → Option (jR Unit)) i (b : Int32) => K b i) 8 (fun i x => x = Int32.ofNat (cntB (fun f => decide (S (b + 10) f = ((1 : Int32) <<< (p &&& 31)))) i)) (fun rec i x hi hx ih => ?_) (fun rec x hx => ?_) 8 0 1000 0 (by omega) (by omega) rfl
  · have e : ((8 : Int32) ≤ Int32.ofNat i) = (8 ≤ i) := n32_le (n := 8) (by omega) (by omega)
    have hs : cntB (fun f => decide (S (b + 10) f = ((1 : Int32) <<< (p &&& 31)))) (i + 1) = cntB (fun f => decide (S (b + 10) f = ((1 : Int32) <<< (p &&& 31)))) i + if decide (S (b + 10) i = ((1 : Int32) <<< (p &&& 31))) = true then 1 else 0 := rfl
    refine wq_ite (fun h => absurd (Eq.mp e h) (by omega)) (fun _ => wq_chk (n32_inb (by omega) hi) (wq_join fun k4 hk4 => ?_))
    rw [n32_c (show i ≤ 1000 by omega)]
    have fin : ∀ y : Nat, y = (if decide (S (b + 10) i = ((1 : Int32) <<< (p &&& 31))) = true then 1 else 0) → wq (k4 (Int32.ofNat y)) (fun t9 v _ => t9 = 0 ∧ v = Int32.ofNat (cntB (fun f => decide (S (b + 10) f = ((1 : Int32) <<< (p &&& 31)))) 8)) := fun y hy => by
      rw [hk4]
      dsimp only
      rw [n32_succ]
      refine wq_let (wq_let (ih _ ?_))
      rw [hs, hx, n32_addn, hy]
    exact wq_ite (fun hz => fin 1 (by rw [if_pos (decide_eq_true hz)])) (fun hz => fin 0 (by rw [decide_eq_false hz]; rfl))
  · exact wq_ite (fun _ => ⟨rfl, hx⟩) (fun h => absurd (by decide) h)
theorem m_holdTrial {S : jS} {t : Nat} (ht : t ≤ 5) (hh : S 383 t = 0) (hl : S 358 30 ≠ 400) : ∃ S1, f_X11_holdTrial S (Int32.ofNat t) = some (0, Int32.ofNat (cntB (fun k => decide (S 382 (160 * t + k) - 1 ≠ -1)) 160), S1) ∧ S1 358 0 = 0 ∧ S1 358 30 = S 358 30 + 1 ∧ (∀ j, S1 383 j = if j = t then 1 else S 383 j) ∧ (∀ j, j < 160 → S1 384 j = (if S 382 (160 * t + j) - 1 = -1 then S 384 j else wb (S 384 j) (Int32.ofNat t) 1)) ∧ (∀ j, j < 160 → S1 385 j = (if S 382 (160 * t + j) - 1 = -1 then S 385 j else if S 384 j = 0 then S 382 (160 * t + j) - 1 else S 385 j)) ∧ ∀ q j, q ≠ 358 → q ≠ 383 → q ≠ 384 → q ≠ 385 → S1 q j = S q j := by
  suffices hw : wq (f_X11_holdTrial S (Int32.ofNat t)) (fun t9 v S1 => t9 = 0 ∧ v = Int32.ofNat (cntB (fun k => decide (S 382 (160 * t + k) - 1 ≠ -1)) 160) ∧ S1 358 0 = 0 ∧ S1 358 30 = S 358 30 + 1 ∧ (∀ j, S1 383 j = if j = t then 1 else S 383 j) ∧ (∀ j, j < 160 → S1 384 j = (if S 382 (160 * t + j) - 1 = -1 then S 384 j else wb (S 384 j) (Int32.ofNat t) 1)) ∧ (∀ j, j < 160 → S1 385 j = (if S 382 (160 * t + j) - 1 = -1 then S 385 j else if S 384 j = 0 then S 382 (160 * t + j) - 1 else S 385 j)) ∧ ∀ q j, q ≠ 358 → q ≠ 383 → q ≠ 384 → q ≠ 385 → S1 q j = S q j) by
    obtain ⟨t9, v, S1, e, rfl, rfl, h⟩ := wq_ex hw
    exact ⟨S1, e, h⟩
  have hp : (0 : Int32) ≤ Int32.ofNat t ∧ Int32.ofNat t ≤ 5 := rg_le (n := 5) ht (by omega)
  have ct : (Int32.ofNat t).toNatClampNeg = t := n32_c (by omega)
  unfold f_X11_holdTrial
  rw [m_trial, jbin0_s, rg_1 hp]
  refine wq_join fun k2 hk2 => wq_ite (fun h => absurd h (by decide)) (fun _ => wq_chk (in6 ht) (wq_join fun k3 hk3 => ?_))
  rw [ct, if_pos hh, if_neg hl, hk2]
  dsimp only
  rw [m_w0, jbin0_s, if_neg (by decide)]
  refine wq_for (fun (K : jS → Int32 → Int32 → Option (jR jS)) i (b : jS × Int32) => K b.1 b.2 i) 160 (fun i b => b.2 = Int32.ofNat (cntB (fun k => decide (S 382 (160 * t + k) - 1 ≠ -1)) i) ∧ b.1 358 0 = 0 ∧ b.1 358 30 = S 358 30 ∧ (∀ j, b.1 384 j = if j < i then (if S 382 (160 * t + j) - 1 = -1 then S 384 j else wb (S 384 j) (Int32.ofNat t) 1) else S 384 j) ∧ (∀ j, b.1 385 j = if j < i then (if S 382 (160 * t + j) - 1 = -1 then S 385 j else if S 384 j = 0 then S 382 (160 * t + j) - 1 else S 385 j) else S 385 j) ∧ ∀ q j, q ≠ 358 → q ≠ 384 → q ≠ 385 → b.1 q j = S q j) (fun rec8 i b hi hP ih => ?_) (fun rec8 b hP => ?_) 160 0 1000 (jset S 358 0 0, 0) (by omega) (by omega) ⟨rfl, show jset S 358 0 0 358 0 = 0 from jset_at, by show jset S 358 0 0 358 30 = _; exact jset_ne (by omega), fun j => by rw [if_neg (by omega)]; show jset S 358 0 0 384 j = _; exact jset_ne (by omega), fun j => by rw [if_neg (by omega)]; show jset S 358 0 0 385 j = _; exact jset_ne (by omega), fun q j h1 h2 h3 => by show jset S 358 0 0 q j = _; exact jset_ne (by omega)⟩
  · obtain ⟨S9, x⟩ := b
    obtain ⟨hx, h0, h30, h384, h385, hf⟩ := hP
    dsimp only at hx h0 h30 h384 h385 hf ⊢
    have e1 : ((160 : Int32) ≤ Int32.ofNat i) = (160 ≤ i) := n32_le (n := 160) (by omega) (by omega)
    have hs : cntB (fun k => decide (S 382 (160 * t + k) - 1 ≠ -1)) (i + 1) = cntB (fun k => decide (S 382 (160 * t + k) - 1 ≠ -1)) i + if decide (S 382 (160 * t + i) - 1 ≠ -1) = true then 1 else 0 := rfl
    have c160 : inb (Int32.ofNat i) 160 = true := n32_inb (by omega) hi
    have ci : (Int32.ofNat i).toNatClampNeg = i := n32_c (by omega)
    refine wq_ite (fun h => absurd (Eq.mp e1 h) (by omega)) (fun _ => ?_)
    rw [n32_160, n32_c (show 160 * t + i ≤ 1000 by omega), hf 382 _ (by omega) (by omega) (by omega)]
    refine wq_chk (n32_inb (by omega) (by omega)) (wq_let (wq_join fun k16 hk16 => ?_))
    refine wq_ite (fun hz => ?_) (fun hz => wq_chk c160 (wq_join fun k17 hk17 => ?_))
    · rw [hk16]
      dsimp only
      rw [n32_succ]
      refine wq_let (ih (S9, x) ⟨?_, h0, h30, fun j => ?_, fun j => ?_, hf⟩)
      · dsimp only
        rw [hs, hx, decide_eq_false (fun h => h hz)]
        rfl
      · dsimp only
        rw [h384]
        by_cases hj : j < i
        · rw [if_pos hj, if_pos (show j < i + 1 by omega)]
        · rw [if_neg hj]
          by_cases hji : j = i
          · rw [if_pos (show j < i + 1 by omega), hji, if_pos hz]
          · rw [if_neg (show ¬ j < i + 1 by omega)]
      · dsimp only
        rw [h385]
        by_cases hj : j < i
        · rw [if_pos hj, if_pos (show j < i + 1 by omega)]
        · rw [if_neg hj]
          by_cases hji : j = i
          · rw [if_pos (show j < i + 1 by omega), hji, if_pos hz]
          · rw [if_neg (show ¬ j < i + 1 by omega)]
    · rw [ci]
      have e384 : S9 384 i = S 384 i := by rw [h384, if_neg (Nat.lt_irrefl _)]
      have e385 : S9 385 i = S 385 i := by rw [h385, if_neg (Nat.lt_irrefl _)]
      have fin : ∀ y, y = (if S 384 i = 0 then S 382 (160 * t + i) - 1 else S 385 i) → wq (k17 y) (fun t9 v S1 => t9 = 0 ∧ v = Int32.ofNat (cntB (fun k => decide (S 382 (160 * t + k) - 1 ≠ -1)) 160) ∧ S1 358 0 = 0 ∧ S1 358 30 = S 358 30 + 1 ∧ (∀ j, S1 383 j = if j = t then 1 else S 383 j) ∧ (∀ j, j < 160 → S1 384 j = (if S 382 (160 * t + j) - 1 = -1 then S 384 j else wb (S 384 j) (Int32.ofNat t) 1)) ∧ (∀ j, j < 160 → S1 385 j = (if S 382 (160 * t + j) - 1 = -1 then S 385 j else if S 384 j = 0 then S 382 (160 * t + j) - 1 else S 385 j)) ∧ ∀ q j, q ≠ 358 → q ≠ 383 → q ≠ 384 → q ≠ 385 → S1 q j = S q j) := fun y hy => by
        rw [hk17]
        dsimp only
        refine wq_chk c160 (wq_let (wq_chk c160 (wq_chk c160 (wq_let (wq_let ?_)))))
        rw [ci, hk16]
        dsimp only
        rw [n32_succ]
        refine wq_let (ih (jset (jset S9 385 i y) 384 i (jset S9 385 i y 384 i ||| ((1 : Int32) <<< (Int32.ofNat t &&& 31))), x + 1) ⟨?_, ?_, ?_, fun j => ?_, fun j => ?_, fun q j h1 h2 h3 => ?_⟩)
        · dsimp only
          rw [hs, hx, decide_eq_true hz, n32_succ]
          rfl
        · dsimp only
          rw [jset_ne (by omega), jset_ne (by omega)]
          exact h0
        · dsimp only
          rw [jset_ne (by omega), jset_ne (by omega)]
          exact h30
        · dsimp only
          rw [js2_2 (by omega), jset_ne (by omega), e384]
          by_cases hji : j = i
          · rw [if_pos hji, if_pos (show j < i + 1 by omega), hji, if_neg hz]
            unfold wb
            rw [if_neg (by decide)]
          · rw [if_neg hji, h384]
            by_cases hj : j < i
            · rw [if_pos hj, if_pos (show j < i + 1 by omega)]
            · rw [if_neg hj, if_neg (show ¬ j < i + 1 by omega)]
        · dsimp only
          rw [js2_1 (by omega)]
          by_cases hji : j = i
          · rw [if_pos hji, if_pos (show j < i + 1 by omega), hji, if_neg hz, hy]
          · rw [if_neg hji, h385]
            by_cases hj : j < i
            · rw [if_pos hj, if_pos (show j < i + 1 by omega)]
            · rw [if_neg hj, if_neg (show ¬ j < i + 1 by omega)]
        · dsimp only
          rw [js2_o h3 h2]
          exact hf q j h1 h2 h3
      refine wq_ite (fun h9 => fin _ ?_) (fun h9 => wq_chk c160 (fin _ ?_))
      · have h9 : S9 384 i = 0 := h9
        rw [e384] at h9
        rw [if_pos h9]
      · have h9 : ¬ S9 384 i = 0 := h9
        rw [e384] at h9
        rw [if_neg h9]
        exact e385
  · obtain ⟨S9, x⟩ := b
    obtain ⟨hx, h0, h30, h384, h385, hf⟩ := hP
    dsimp only at hx h0 h30 h384 h385 hf ⊢
    refine wq_ite (fun _ => wq_chk (in6 ht) (wq_let (wq_let ?_))) (fun h => absurd (by decide) h)
    rw [ct, nar_1]
    refine ⟨rfl, hx, ?_, ?_, fun j => ?_, fun j hj => ?_, fun j hj => ?_, fun q j h1 h2 h3 h4 => ?_⟩
    · rw [jset_ne (by omega), jset_ne (by omega)]
      exact h0
    · rw [jset_at, jset_ne (by omega), h30]
    · rw [jset_ne (by omega), jset_if]
      by_cases hj : j = t
      · rw [if_pos ⟨rfl, hj⟩, if_pos hj]
      · rw [if_neg (fun h => hj h.2), if_neg hj]
        exact hf 383 j (by omega) (by omega) (by omega)
    · rw [jset_ne (by omega), jset_ne (by omega), h384, if_pos hj]
    · rw [jset_ne (by omega), jset_ne (by omega), h385, if_pos hj]
    · rw [jset_ne (by omega), jset_ne (by omega)]
      exact hf q j h1 h3 h4
/-- 26: holdTrial -/
theorem ag_26 {S SM : jS} {L : jLg} (h : InvL S L SM) : ∀ p1, AGv (f_X10_holdTrial S L p1) 1 2 0 (f_X11_holdTrial SM p1) (fun S1 SM1 => InvL S1.1 S1.2 SM1) := fun p1 => by
  by_cases hp : 0 ≤ p1 ∧ p1 ≤ 5
  · obtain ⟨t, ht, rfl⟩ := n32_rg (n := 5) (by omega) hp
    obtain ⟨hlog, hlogM⟩ := f_log h (S2 := S)
    by_cases hc : SM 383 t = 0 ∧ L.length < 400
    · obtain ⟨SM1, em, m0, m30, m383, m384, m385, mf⟩ := m_holdTrial ht hc.1 (fun h9 => hlogM.mp h9 hc.2)
      have hT : ITr (jset S (346 + 2 * t) 3 1) SM1 := fun t9 ht9 => by
        obtain ⟨q1, q2, q3, q4, q5, q6⟩ := h.2.2.2.2.2.1 t9 ht9
        rw [jset_ne (j := 1) (by omega), jset_ne (j := 2) (by omega), mf 379 _ (by omega) (by omega) (by omega) (by omega), mf 380 _ (by omega) (by omega) (by omega) (by omega), m383]
        refine ⟨q1, q2, q3, ?_, ?_, fun v hv => ?_⟩
        · by_cases htt : t9 = t
          · rw [if_pos htt, htt, jset_at]
          · rw [if_neg htt, jset_ne (by omega)]
            exact q4
        · by_cases htt : t9 = t
          · rw [if_pos htt]
            exact Or.inr rfl
          · rw [if_neg htt]
            exact q5
        · rw [jset_ne (by omega), mf 378 _ (by omega) (by omega) (by omega) (by omega)]
          exact q6 v hv
      have htk : ∀ p r j, tk (ent5 4 (-1) (-1) (Int32.ofNat t) (-1)) (getP (82 + 12 * p) S) r j = (if r = 10 ∧ j < 8 then (if getP (82 + 12 * p) S (3 + t) j = -1 then getP (82 + 12 * p) S 10 j else wb (getP (82 + 12 * p) S 10 j) (Int32.ofNat t) 1) else if r = 11 ∧ j < 8 then (if getP (82 + 12 * p) S (3 + t) j = -1 then getP (82 + 12 * p) S 11 j else if getP (82 + 12 * p) S 10 j = 0 then getP (82 + 12 * p) S (3 + t) j else getP (82 + 12 * p) S 11 j) else getP (82 + 12 * p) S r j) := fun p r j => by
        have ct : (ent5 4 (-1) (-1) (Int32.ofNat t) (-1) 3).toNatClampNeg = t := n32_c (k := t) (by omega)
        unfold tk
        have e0 : ent5 4 (-1) (-1) (Int32.ofNat t) (-1) 0 = 4 := rfl
        rw [e0, if_neg (by decide), if_neg (by decide), if_neg (by decide), if_pos rfl, ct]
        rfl
      have hsb : ∀ p, p < 20 → ∀ f, f < 8 → getP (82 + 12 * p) S (3 + t) f = SM 382 (160 * t + (8 * p + f)) - 1 := fun p hp f hf => by
        have := (IP1_pers h hp).2.1 t (by omega) f hf
        rw [Nat.zero_add] at this
        exact this
      obtain ⟨S1, ee, _, hg1, hI⟩ := inv_enter (S2 := jset S (346 + 2 * t) 3 1) (SM1 := SM1) (e := ent5 4 (-1) (-1) (Int32.ofNat t) (-1)) h (fun q hq _ => if_neg (by omega)) ⟨(Or.inr (Or.inr (Or.inr (Or.inr (Or.inl ⟨rfl, t, by omega, rfl⟩))))), fun h9 => absurd (show (4 : Int32) = 0 ∨ (4 : Int32) = 1 ∨ (4 : Int32) = 2 from h9) (by decide)⟩ hc.2 (fun q j hq => mf q j (by omega) (by omega) (by omega) (by omega)) (by rw [m30, h.2.2.2.2.2.2.2.2.1, n32_succ]) hT (fun p hp99 => by
        rw [if_pos not_m1]
        obtain ⟨o1, o2, o3⟩ := IP1_pers h hp99
        refine ⟨fun t9 ht9 => ?_, fun t9 ht9 f9 hf9 => ?_, fun f9 hf9 => ?_⟩
        · rw [htk, if_neg (by omega), if_neg (by omega), mf 381 _ (by omega) (by omega) (by omega) (by omega)]
          exact o1 t9 ht9
        · rw [htk, if_neg (by omega), if_neg (by omega), mf 382 _ (by omega) (by omega) (by omega) (by omega)]
          exact o2 t9 ht9 f9 hf9
        · have := o3 f9 hf9
          rw [Nat.zero_add, Nat.zero_add, Nat.zero_add] at this
          obtain ⟨c1, c2, c3, c4, c5⟩ := this
          rw [Nat.zero_add, Nat.zero_add, Nat.zero_add, htk, htk, htk, if_neg (show ¬ (9 = 10 ∧ f9 < 8) by omega), if_neg (show ¬ (9 = 11 ∧ f9 < 8) by omega), if_pos (show 10 = 10 ∧ f9 < 8 from ⟨rfl, hf9⟩), if_neg (show ¬ (11 = 10 ∧ f9 < 8) by omega), if_pos (show 11 = 11 ∧ f9 < 8 from ⟨rfl, hf9⟩), mf 386 _ (by omega) (by omega) (by omega) (by omega), m384 _ (by omega), m385 _ (by omega), hsb p hp99 f9 hf9, c2, c3]
          refine ⟨c1, rfl, rfl, ?_, fun t9 ht9 h9 => ?_⟩
          · by_cases hz : SM 382 (160 * t + (8 * p + f9)) - 1 = -1
            · rw [if_pos hz]
              exact c4
            · rw [if_neg hz]
              exact bits_wb c4 (by omega) (by omega)
          · rw [m383] at h9
            by_cases htt : t9 = t
            · rw [if_pos htt] at h9
              exact absurd h9 (by decide)
            · rw [if_neg htt] at h9
              by_cases hz : SM 382 (160 * t + (8 * p + f9)) - 1 = -1
              · rw [if_pos hz]
                exact c5 t9 ht9 h9
              · rw [if_neg hz, wb_bt (by omega) (by omega), if_neg htt]
                exact c5 t9 ht9 h9)
      refine AGv_ok (v := Int32.ofNat (cntB (fun k => decide (SM 382 (160 * t + k) - 1 ≠ -1)) 160)) (S1 := (S1, L ++ [ent5 4 (-1) (-1) (Int32.ofNat t) (-1)])) (SM1 := SM1) ?_ em m0 hI (n32_big (Nat.le_trans cntB_le9 (by decide)))
      unfold f_X10_holdTrial
      rw [f_tri_y hp, jbind_s, f_nh h ht, if_pos hc.1, jbind_s, hlog, if_pos hc.2, jbind_s, chk_t (in6 ht), n32_c (show t ≤ 1000 by omega)]
      unfold letE
      dsimp only
      rw [ee, jbin0_s]
      suffices hw : wq (loopK (fun (rec6 : Int32 → Int32 → Option (jR jSL)) (x7 : Int32) (x8 : Int32) => (if (20 : Int32) ≤ x8 then some (0, x7, (S1, L ++ [ent5 4 (-1) (-1) (Int32.ofNat t) (-1)])) else chk (inb x8 20) (jbin0 (f_X5_countHeldBy S1 (82 + 12 * x8.toNatClampNeg) (Int32.ofNat t)) (fun v10 _ => rec6 (x7 + v10) (x8 + (1 : Int32)))))) (fun _ _ => none) 1000 (0 : Int32) (0 : Int32)) (fun t9 v9 S9 => t9 = 0 ∧ v9 = Int32.ofNat (cntB (fun k => decide (SM 382 (160 * t + k) - 1 ≠ -1)) 160) ∧ S9 = (S1, L ++ [ent5 4 (-1) (-1) (Int32.ofNat t) (-1)])) by
        obtain ⟨t9, v9, S9, e, rfl, rfl, rfl⟩ := wq_ex hw
        exact e
      refine wq_for (fun (K : Int32 → Int32 → Option (jR jSL)) i (b : Int32) => K b i) 20 (fun i x => x = Int32.ofNat (cntB (fun k => decide (SM 382 (160 * t + k) - 1 ≠ -1)) (8 * i))) (fun rec i x hi hx ih => ?_) (fun rec x hx => ?_) 20 0 1000 0 (by omega) (by omega) rfl
      · have e : ((20 : Int32) ≤ Int32.ofNat i) = (20 ≤ i) := n32_le (n := 20) (by omega) (by omega)
        refine wq_ite (fun h => absurd (Eq.mp e h) (by omega)) (fun _ => wq_chk (n32_inb (by omega) hi) ?_)
        rw [f_cntBy (by omega), jbin0_s, n32_succ, n32_c (show i ≤ 1000 by omega)]
        refine ih _ ?_
        have hcc : cntB (fun f => bt (S1 (82 + 12 * i + 10) f) t) 8 = cntB (fun f => decide (SM 382 (160 * t + (8 * i + f)) - 1 ≠ -1)) 8 := cntB_c 8 fun f hf => by
          have g := congrFun (congrFun (hg1 i hi) 10) f
          rw [if_pos not_m1, getP_at (in_10 hf), htk, if_pos ⟨rfl, hf⟩, hsb i hi f hf] at g
          obtain ⟨_, c2, _, _, c5⟩ := (IP1_pers h hi).2.2 f hf
          rw [Nat.zero_add] at c2
          rw [g, c2]
          by_cases hz : SM 382 (160 * t + (8 * i + f)) - 1 = -1
          · rw [if_pos hz, decide_eq_false (fun h => h hz)]
            exact c5 t (by omega) hc.1
          · rw [if_neg hz, decide_eq_true hz, wb_bt (by omega) (by omega), if_pos rfl]
            rfl
        rw [hx, n32_addn, hcc, show 8 * (i + 1) = 8 * i + 8 by omega, cntB_add]
      · exact wq_ite (fun _ => ⟨rfl, hx, rfl⟩) (fun h => absurd (by decide) h)
    · refine AGv_2 (v := 0) (v2 := 0) (S1 := (S, L)) (SM1 := jset SM 358 0 2) ?_ ?_ jset_at (by decide) (inv_thr h)
      · unfold f_X10_holdTrial
        rw [f_tri_y hp, jbind_s, f_nh h ht]
        by_cases hz : SM 383 t = 0
        · rw [if_pos hz, jbind_s, hlog, if_neg (fun h9 => hc ⟨hz, h9⟩)]
          rfl
        · rw [if_neg hz]
          rfl
      · unfold f_X11_holdTrial joinK
        rw [m_trial, jbin0_s, rg_1 hp]
        dsimp only
        rw [if_neg (by decide), chk_t (in6 ht), n32_c (show t ≤ 1000 by omega)]
        by_cases hz : SM 383 t = 0
        · rw [if_pos hz, if_pos (hlogM.mpr fun h9 => hc ⟨hz, h9⟩), m_w2, jbin0_s, if_pos rfl]
        · rw [if_neg hz, m_w2, jbin0_s, if_pos rfl]
  · refine AGv_1 (v := 0) (v2 := 0) (S1 := (S, L)) (SM1 := jset SM 358 0 1) ?_ ?_ jset_at (by decide) (inv_thr h)
    · unfold f_X10_holdTrial
      rw [f_tri_n hp, jbind_t]
    · unfold f_X11_holdTrial joinK
      rw [m_trial, jbin0_s, rg_0 hp]
      dsimp only
      rw [if_pos rfl, m_w1, jbin0_s, if_pos rfl]
end HTR
