section RTR
theorem m_releaseTrial {S : jS} {t : Nat} (ht : t ≤ 5) (hh : ¬ S 383 t = 0) (hl : S 358 30 ≠ 400) : ∃ S1, f_X11_releaseTrial S (Int32.ofNat t) = some (0, Int32.ofNat (cntB (fun k => decide (S 384 k = ((1 : Int32) <<< (Int32.ofNat t &&& 31)))) 160), S1) ∧ S1 358 0 = 0 ∧ S1 358 30 = S 358 30 + 1 ∧ (∀ j, S1 383 j = if j = t then 0 else S 383 j) ∧ (∀ j, j < 160 → S1 384 j = wb (S 384 j) (Int32.ofNat t) 0) ∧ ∀ q j, q ≠ 358 → q ≠ 383 → q ≠ 384 → S1 q j = S q j := by
  suffices hw : wq (f_X11_releaseTrial S (Int32.ofNat t)) (fun t9 v S1 => t9 = 0 ∧ v = Int32.ofNat (cntB (fun k => decide (S 384 k = ((1 : Int32) <<< (Int32.ofNat t &&& 31)))) 160) ∧ S1 358 0 = 0 ∧ S1 358 30 = S 358 30 + 1 ∧ (∀ j, S1 383 j = if j = t then 0 else S 383 j) ∧ (∀ j, j < 160 → S1 384 j = wb (S 384 j) (Int32.ofNat t) 0) ∧ ∀ q j, q ≠ 358 → q ≠ 383 → q ≠ 384 → S1 q j = S q j) by
    obtain ⟨t9, v, S1, e, rfl, rfl, h⟩ := wq_ex hw
    exact ⟨S1, e, h⟩
  have hp : (0 : Int32) ≤ Int32.ofNat t ∧ Int32.ofNat t ≤ 5 := rg_le (n := 5) ht (by omega)
  have ct : (Int32.ofNat t).toNatClampNeg = t := n32_c (by omega)
  unfold f_X11_releaseTrial
  rw [m_trial, jbin0_s, rg_1 hp]
  refine wq_join fun k2 hk2 => wq_ite (fun h => absurd h (by decide)) (fun _ => wq_chk (in6 ht) (wq_join fun k3 hk3 => ?_))
  rw [ct, if_neg hh, if_neg hl, hk2]
  dsimp only
  rw [m_w0, jbin0_s, if_neg (by decide)]
  refine wq_for (fun (K : jS → Int32 → Int32 → Option (jR jS)) i (b : jS × Int32) => K b.1 b.2 i) 160 (fun i b => b.2 = Int32.ofNat (cntB (fun k => decide (S 384 k = ((1 : Int32) <<< (Int32.ofNat t &&& 31)))) i) ∧ b.1 358 0 = 0 ∧ b.1 358 30 = S 358 30 ∧ (∀ j, b.1 384 j = if j < i then wb (S 384 j) (Int32.ofNat t) 0 else S 384 j) ∧ ∀ q j, q ≠ 358 → q ≠ 384 → b.1 q j = S q j) (fun rec8 i b hi hP ih => ?_) (fun rec8 b hP => ?_) 160 0 1000 (jset S 358 0 0, 0) (by omega) (by omega) ⟨rfl, show jset S 358 0 0 358 0 = 0 from jset_at, by show jset S 358 0 0 358 30 = _; exact jset_ne (by omega), fun j => by rw [if_neg (by omega)]; show jset S 358 0 0 384 j = _; exact jset_ne (by omega), fun q j h1 h2 => by show jset S 358 0 0 q j = _; exact jset_ne (by omega)⟩
  · obtain ⟨S9, x⟩ := b
    obtain ⟨hx, h0, h30, h384, hf⟩ := hP
    dsimp only at hx h0 h30 h384 hf ⊢
    have e1 : ((160 : Int32) ≤ Int32.ofNat i) = (160 ≤ i) := n32_le (n := 160) (by omega) (by omega)
    have hs : cntB (fun k => decide (S 384 k = ((1 : Int32) <<< (Int32.ofNat t &&& 31)))) (i + 1) = cntB (fun k => decide (S 384 k = ((1 : Int32) <<< (Int32.ofNat t &&& 31)))) i + if decide (S 384 i = ((1 : Int32) <<< (Int32.ofNat t &&& 31))) = true then 1 else 0 := rfl
    have c160 : inb (Int32.ofNat i) 160 = true := n32_inb (by omega) hi
    have ci : (Int32.ofNat i).toNatClampNeg = i := n32_c (by omega)
    have e384 : S9 384 i = S 384 i := by rw [h384, if_neg (Nat.lt_irrefl _)]
    refine wq_ite (fun h => absurd (Eq.mp e1 h) (by omega)) (fun _ => wq_chk c160 (wq_join fun k15 hk15 => ?_))
    have fin : ∀ y : Nat, y = (if decide (S 384 i = ((1 : Int32) <<< (Int32.ofNat t &&& 31))) = true then 1 else 0) → wq (k15 (Int32.ofNat y)) (fun t9 v S1 => t9 = 0 ∧ v = Int32.ofNat (cntB (fun k => decide (S 384 k = ((1 : Int32) <<< (Int32.ofNat t &&& 31)))) 160) ∧ S1 358 0 = 0 ∧ S1 358 30 = S 358 30 + 1 ∧ (∀ j, S1 383 j = if j = t then 0 else S 383 j) ∧ (∀ j, j < 160 → S1 384 j = wb (S 384 j) (Int32.ofNat t) 0) ∧ ∀ q j, q ≠ 358 → q ≠ 383 → q ≠ 384 → S1 q j = S q j) := fun y hy => by
      rw [hk15]
      dsimp only
      rw [ci, n32_succ]
      refine wq_let (wq_chk c160 (wq_chk c160 (wq_let (wq_let ?_))))
      refine ih (jset S9 384 i (S9 384 i &&& (((1 : Int32) <<< (Int32.ofNat t &&& 31)) ^^^ (-1 : Int32))), x + Int32.ofNat y) ⟨?_, ?_, ?_, fun j => ?_, fun q j h1 h2 => ?_⟩
      · dsimp only
        rw [hs, hx, n32_addn, hy]
      · dsimp only
        rw [jset_ne (by omega)]
        exact h0
      · dsimp only
        rw [jset_ne (by omega)]
        exact h30
      · dsimp only
        rw [jset_if, e384]
        by_cases hji : j = i
        · rw [if_pos ⟨rfl, hji⟩, if_pos (show j < i + 1 by omega), hji]
          unfold wb
          rw [if_pos rfl]
        · rw [if_neg (fun h => hji h.2), h384]
          by_cases hj : j < i
          · rw [if_pos hj, if_pos (show j < i + 1 by omega)]
          · rw [if_neg hj, if_neg (show ¬ j < i + 1 by omega)]
      · dsimp only
        rw [jset_ne (by omega)]
        exact hf q j h1 h2
    rw [ci]
    refine wq_ite (fun hz => fin 1 ?_) (fun hz => fin 0 ?_)
    · have hz : S9 384 i = ((1 : Int32) <<< (Int32.ofNat t &&& 31)) := hz
      rw [e384] at hz
      rw [if_pos (decide_eq_true hz)]
    · have hz : ¬ S9 384 i = ((1 : Int32) <<< (Int32.ofNat t &&& 31)) := hz
      rw [e384] at hz
      rw [decide_eq_false hz]
      rfl
  · obtain ⟨S9, x⟩ := b
    obtain ⟨hx, h0, h30, h384, hf⟩ := hP
    dsimp only at hx h0 h30 h384 hf ⊢
    refine wq_ite (fun _ => wq_chk (in6 ht) (wq_let (wq_let ?_))) (fun h => absurd (by decide) h)
    rw [ct, nar_0]
    refine ⟨rfl, hx, ?_, ?_, fun j => ?_, fun j hj => ?_, fun q j h1 h2 h3 => ?_⟩
    · rw [jset_ne (by omega), jset_ne (by omega)]
      exact h0
    · rw [jset_at, jset_ne (by omega), h30]
    · rw [jset_ne (by omega), jset_if]
      by_cases hj : j = t
      · rw [if_pos ⟨rfl, hj⟩, if_pos hj]
      · rw [if_neg (fun h => hj h.2), if_neg hj]
        exact hf 383 j (by omega) (by omega)
    · rw [jset_ne (by omega), jset_ne (by omega), h384, if_pos hj]
    · rw [jset_ne (by omega), jset_ne (by omega)]
      exact hf q j h1 h3
/-- 27: releaseTrial -/
theorem ag_27 {S SM : jS} {L : jLg} (h : InvL S L SM) : ∀ p1, AGv (f_X10_releaseTrial S L p1) 1 2 0 (f_X11_releaseTrial SM p1) (fun S1 SM1 => InvL S1.1 S1.2 SM1) := fun p1 => by
  by_cases hp : 0 ≤ p1 ∧ p1 ≤ 5
  · obtain ⟨t, ht, rfl⟩ := n32_rg (n := 5) (by omega) hp
    obtain ⟨hlog, hlogM⟩ := f_log h (S2 := S)
    have e383 := (h.2.2.2.2.2.1 t (by omega)).2.2.2.1
    by_cases hc : ¬ SM 383 t = 0 ∧ L.length < 400
    · obtain ⟨SM1, em, m0, m30, m383, m384, mf⟩ := m_releaseTrial ht hc.1 (fun h9 => hlogM.mp h9 hc.2)
      have hT : ITr (jset S (346 + 2 * t) 3 0) SM1 := fun t9 ht9 => by
        obtain ⟨q1, q2, q3, q4, q5, q6⟩ := h.2.2.2.2.2.1 t9 ht9
        rw [jset_ne (j := 1) (by omega), jset_ne (j := 2) (by omega), mf 379 _ (by omega) (by omega) (by omega), mf 380 _ (by omega) (by omega) (by omega), m383]
        refine ⟨q1, q2, q3, ?_, ?_, fun v hv => ?_⟩
        · by_cases htt : t9 = t
          · rw [if_pos htt, htt, jset_at]
          · rw [if_neg htt, jset_ne (by omega)]
            exact q4
        · by_cases htt : t9 = t
          · rw [if_pos htt]
            exact Or.inl rfl
          · rw [if_neg htt]
            exact q5
        · rw [jset_ne (by omega), mf 378 _ (by omega) (by omega) (by omega)]
          exact q6 v hv
      have htk : ∀ p r j, tk (ent5 5 (-1) (-1) (Int32.ofNat t) (-1)) (getP (82 + 12 * p) S) r j = (if r = 10 ∧ j < 8 then wb (getP (82 + 12 * p) S 10 j) (Int32.ofNat t) 0 else getP (82 + 12 * p) S r j) := fun p r j => by
        unfold tk
        have e0 : ent5 5 (-1) (-1) (Int32.ofNat t) (-1) 0 = 5 := rfl
        rw [e0, if_neg (by decide), if_neg (by decide), if_neg (by decide), if_neg (by decide), if_pos rfl]
        rfl
      obtain ⟨S1, ee, _, _, hI⟩ := inv_enter (S2 := jset S (346 + 2 * t) 3 0) (SM1 := SM1) (e := ent5 5 (-1) (-1) (Int32.ofNat t) (-1)) h (fun q hq _ => if_neg (by omega)) ⟨(Or.inr (Or.inr (Or.inr (Or.inr (Or.inr (Or.inl ⟨rfl, t, by omega, rfl⟩)))))), fun h9 => absurd (show (5 : Int32) = 0 ∨ (5 : Int32) = 1 ∨ (5 : Int32) = 2 from h9) (by decide)⟩ hc.2 (fun q j hq => mf q j (by omega) (by omega) (by omega)) (by rw [m30, h.2.2.2.2.2.2.2.2.1, n32_succ]) hT (fun p hp99 => by
        rw [if_pos not_m1]
        obtain ⟨o1, o2, o3⟩ := IP1_pers h hp99
        refine ⟨fun t9 ht9 => ?_, fun t9 ht9 f9 hf9 => ?_, fun f9 hf9 => ?_⟩
        · rw [htk, if_neg (by omega), mf 381 _ (by omega) (by omega) (by omega)]
          exact o1 t9 ht9
        · rw [htk, if_neg (by omega), mf 382 _ (by omega) (by omega) (by omega)]
          exact o2 t9 ht9 f9 hf9
        · have := o3 f9 hf9
          rw [Nat.zero_add, Nat.zero_add, Nat.zero_add] at this
          obtain ⟨c1, c2, c3, c4, c5⟩ := this
          rw [Nat.zero_add, Nat.zero_add, Nat.zero_add, htk, htk, htk, if_neg (show ¬ (9 = 10 ∧ f9 < 8) by omega), if_pos (show 10 = 10 ∧ f9 < 8 from ⟨rfl, hf9⟩), if_neg (show ¬ (11 = 10 ∧ f9 < 8) by omega), mf 386 _ (by omega) (by omega) (by omega), m384 _ (by omega), mf 385 _ (by omega) (by omega) (by omega), c2]
          refine ⟨c1, rfl, c3, bits_wb c4 (by omega) (by omega), fun t9 ht9 h9 => ?_⟩
          rw [m383] at h9
          rw [wb_bt (by omega) (by omega)]
          by_cases htt : t9 = t
          · rw [if_pos htt]
            rfl
          · rw [if_neg htt] at h9 ⊢
            exact c5 t9 ht9 h9)
      refine AGv_ok (v := Int32.ofNat (cntB (fun k => decide (SM 384 k = ((1 : Int32) <<< (Int32.ofNat t &&& 31)))) 160)) (S1 := (S1, L ++ [ent5 5 (-1) (-1) (Int32.ofNat t) (-1)])) (SM1 := SM1) ?_ em m0 hI (n32_big (Nat.le_trans cntB_le9 (by decide)))
      unfold f_X10_releaseTrial
      rw [f_tri_y hp, jbind_s, chk_t (in6 ht), n32_c (show t ≤ 1000 by omega), e383, if_neg hc.1, hlog, if_pos hc.2, jbind_s]
      suffices hw : wq (loopK (fun (rec2 : Int32 → Int32 → Option (jR jSL)) (x3 : Int32) (x4 : Int32) => (if (20 : Int32) ≤ x4 then chk (inb (Int32.ofNat t) 6) (letE (jset S (346 + 2 * t) 3 (0 : Int32)) fun S6 => jbin0 (f_X10_enter S6 L (ent5 (5 : Int32) (-1 : Int32) (-1 : Int32) (Int32.ofNat t) (-1 : Int32))) (fun _ S8 => some (0, x3, (S8.1, S8.2)))) else chk (inb x4 20) (jbin0 (f_X5_countHeldOnlyBy S (82 + 12 * x4.toNatClampNeg) (Int32.ofNat t)) (fun v14 _ => letE (x3 + v14) fun x15 => letE (x4 + (1 : Int32)) fun x16 => rec2 x15 x16)))) (fun _ _ => none) 1000 (0 : Int32) (0 : Int32)) (fun t9 v9 S9 => t9 = 0 ∧ v9 = Int32.ofNat (cntB (fun k => decide (SM 384 k = ((1 : Int32) <<< (Int32.ofNat t &&& 31)))) 160) ∧ S9 = (S1, L ++ [ent5 5 (-1) (-1) (Int32.ofNat t) (-1)])) by
        obtain ⟨t9, v9, S9, e, rfl, rfl, rfl⟩ := wq_ex hw
        exact e
      refine wq_for (fun (K : Int32 → Int32 → Option (jR jSL)) i (b : Int32) => K b i) 20 (fun i x => x = Int32.ofNat (cntB (fun k => decide (SM 384 k = ((1 : Int32) <<< (Int32.ofNat t &&& 31)))) (8 * i))) (fun rec i x hi hx ih => ?_) (fun rec x hx => ?_) 20 0 1000 0 (by omega) (by omega) rfl
      · have e : ((20 : Int32) ≤ Int32.ofNat i) = (20 ≤ i) := n32_le (n := 20) (by omega) (by omega)
        refine wq_ite (fun h => absurd (Eq.mp e h) (by omega)) (fun _ => wq_chk (n32_inb (by omega) hi) ?_)
        rw [f_cntOnly, jbin0_s, n32_succ, n32_c (show i ≤ 1000 by omega)]
        refine wq_let (wq_let (ih _ ?_))
        have hcc : cntB (fun f => decide (S (82 + 12 * i + 10) f = ((1 : Int32) <<< (Int32.ofNat t &&& 31)))) 8 = cntB (fun f => decide (SM 384 (8 * i + f) = ((1 : Int32) <<< (Int32.ofNat t &&& 31)))) 8 := cntB_c 8 fun f hf => by
          obtain ⟨_, c2, _⟩ := (h.2.2.2.2.2.2.1 i hi).2.2 f hf
          rw [c2]
        rw [hx, n32_addn, hcc, show 8 * (i + 1) = 8 * i + 8 by omega, cntB_add]
      · refine wq_ite (fun _ => wq_chk (in6 ht) (wq_let ?_)) (fun h => absurd (by decide) h)
        rw [ee, jbin0_s]
        exact ⟨rfl, hx, rfl⟩
    · refine AGv_2 (v := 0) (v2 := 0) (S1 := (S, L)) (SM1 := jset SM 358 0 2) ?_ ?_ jset_at (by decide) (inv_thr h)
      · unfold f_X10_releaseTrial
        rw [f_tri_y hp, jbind_s, chk_t (in6 ht), n32_c (show t ≤ 1000 by omega), e383]
        by_cases hz : SM 383 t = 0
        · rw [if_pos hz]
        · rw [if_neg hz, hlog, if_neg (fun h9 => hc ⟨hz, h9⟩)]
          rfl
      · unfold f_X11_releaseTrial joinK
        rw [m_trial, jbin0_s, rg_1 hp]
        dsimp only
        rw [if_neg (by decide), chk_t (in6 ht), n32_c (show t ≤ 1000 by omega)]
        by_cases hz : SM 383 t = 0
        · rw [if_pos hz, m_w2, jbin0_s, if_pos rfl]
        · rw [if_neg hz, if_pos (hlogM.mpr fun h9 => hc ⟨hz, h9⟩), m_w2, jbin0_s, if_pos rfl]
  · refine AGv_1 (v := 0) (v2 := 0) (S1 := (S, L)) (SM1 := jset SM 358 0 1) ?_ ?_ jset_at (by decide) (inv_thr h)
    · unfold f_X10_releaseTrial
      rw [f_tri_n hp, jbind_t]
    · unfold f_X11_releaseTrial joinK
      rw [m_trial, jbin0_s, rg_0 hp]
      dsimp only
      rw [if_pos rfl, m_w1, jbin0_s, if_pos rfl]
end RTR
