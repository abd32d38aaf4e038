section MOV
theorem m_copy_go {E : jS → Option (jR jS)} : ∀ (k i : Nat) (S : jS) (fuel : Nat), i + k = 160 → k < fuel →
    loopK (fun (rec2 : jS → Int32 → Option (jR jS)) (S3 : jS) (x4 : Int32) => (if (160 : Int32) ≤ x4 then E S3 else chk (inb x4 160) (chk (inb x4 160) (letE (jset S3 377 x4.toNatClampNeg (S3 376 x4.toNatClampNeg)) fun S44 => letE (x4 + (1 : Int32)) fun x45 => rec2 S44 x45)))) (fun _ _ => none) fuel S (Int32.ofNat i) = E (fun q j => if q = 377 ∧ i ≤ j ∧ j < 160 then S 376 j else S q j)
  | 0, i, S, fuel + 1, h, hf => by
    have hi : i = 160 := by omega
    subst hi
    rw [loopK_s, if_pos (by decide)]
    congr 1
    funext q j
    rw [if_neg (by omega)]
  | k + 1, i, S, fuel + 1, h, hf => by
    have e : ((160 : Int32) ≤ Int32.ofNat i) = (160 ≤ i) := n32_le (n := 160) (by omega) (by omega)
    rw [loopK_s]
    simp only [e]
    rw [if_neg (by omega), chk_t (n32_inb (by omega) (by omega)), chk_t (n32_inb (by omega) (by omega)), n32_c (by omega)]
    unfold letE
    rw [n32_succ]
    refine Eq.trans (m_copy_go k (i + 1) (jset S 377 i (S 376 i)) fuel (by omega) (by omega)) ?_
    · congr 1
      funext q j
      by_cases h1 : q = 377 ∧ i ≤ j ∧ j < 160
      · rw [if_pos h1]
        by_cases h2 : q = 377 ∧ i + 1 ≤ j ∧ j < 160
        · rw [if_pos h2, jset_ne (by omega)]
        · rw [if_neg h2, jset_if, if_pos (by omega), show j = i by omega]
      · rw [if_neg h1, if_neg (by omega), jset_ne (by omega)]
  | 0, _, _, 0, _, hf => absurd hf (Nat.lt_irrefl _)
  | k + 1, _, _, 0, _, hf => absurd hf (Nat.not_lt_zero _)
/-- the model's views, laid aside -/
def cp7 (S : jS) : jS := fun q j => if q = 377 ∧ 0 ≤ j ∧ j < 160 then S 376 j else S q j
theorem f_differ {S : jS} {a0 a1 : Nat} : f_X10_differ S a0 a1 = some (0, b2i (anyB (fun f => decide (S a0 f ≠ S a1 f)) 8), ()) := by
  suffices hw : wq (f_X10_differ S a0 a1) (fun t v _ => t = 0 ∧ v = b2i (anyB (fun f => decide (S a0 f ≠ S a1 f)) 8)) by
    obtain ⟨t, v, S1, e, rfl, rfl⟩ := wq_ex hw
    exact e
  unfold f_X10_differ
  refine wq_for (fun (K : Int32 → Option (jR Unit)) i (_ : Unit) => K i) 8 (fun i _ => anyB (fun f => decide (S a0 f ≠ S a1 f)) i = false) (fun rec i _ hi hP ih => ?_) (fun rec _ hP => ?_) 8 0 1000 () (by omega) (by omega) rfl
  · have e : ((8 : Int32) ≤ Int32.ofNat i) = (8 ≤ i) := n32_le (n := 8) (by omega) (by omega)
    have c8 : inb (Int32.ofNat i) 8 = true := n32_inb (by omega) hi
    have hs : anyB (fun f => decide (S a0 f ≠ S a1 f)) (i + 1) = (anyB (fun f => decide (S a0 f ≠ S a1 f)) i || decide (S a0 i ≠ S a1 i)) := rfl
    refine wq_ite (fun h => absurd (Eq.mp e h) (by omega)) (fun _ => wq_chk c8 (wq_chk c8 ?_))
    rw [n32_c (show i ≤ 1000 by omega)]
    refine wq_ite (fun hz => ?_) (fun hz => wq_chk (by decide) ?_)
    · rw [n32_succ]
      refine wq_let (ih () ?_)
      rw [hs, hP, decide_eq_false (fun h => h hz)]
      rfl
    · have : anyB (fun f => decide (S a0 f ≠ S a1 f)) 8 = true := (anyB_iff 8).mpr ⟨i, hi, decide_eq_true hz⟩
      exact ⟨rfl, by rw [this]; rfl⟩
  · refine wq_ite (fun _ => wq_chk (by decide) ?_) (fun h => absurd (by decide) h)
    exact ⟨rfl, by rw [hP]; rfl⟩
theorem m_count {S : jS} : loopK (fun (rec17 : Int32 → Int32 → Option (jR jS)) (x18 : Int32) (x19 : Int32) => (if (20 : Int32) ≤ x19 then some (0, x18, S) else loopK (fun (rec20 : Int32 → Int32 → Option (jR jS)) (x21 : Int32) (x22 : Int32) => (if (8 : Int32) ≤ x22 then joinK (fun (x24 : Int32) => letE (x18 + x24) fun x25 => letE (x19 + (1 : Int32)) fun x26 => rec17 x25 x26) (fun k23 => (if x21 = (0 : Int32) then k23 (0 : Int32) else k23 (1 : Int32))) else joinK (fun (x31 : Int32) => letE (x22 + (1 : Int32)) fun x32 => rec20 x31 x32) (fun k27 => joinK (fun (_ : Unit) => k27 (1 : Int32)) (fun k28 => (if x21 = (0 : Int32) then chk (inb ((((8 : Int32) * x19) + x22)) 160) (chk (inb ((((8 : Int32) * x19) + x22)) 160) ((if (S 376 ((((8 : Int32) * x19) + x22)).toNatClampNeg) = (S 377 ((((8 : Int32) * x19) + x22)).toNatClampNeg) then k27 (0 : Int32) else k28 ()))) else k28 ()))))) (fun _ _ => none) 1000 (0 : Int32) (0 : Int32))) (fun _ _ => none) 1000 (0 : Int32) (0 : Int32) = some (0, Int32.ofNat (cntB (fun p => anyB (fun f => decide (S 376 (8 * p + f) ≠ S 377 (8 * p + f))) 8) 20), S) := by
  suffices hw : wq (loopK (fun (rec17 : Int32 → Int32 → Option (jR jS)) (x18 : Int32) (x19 : Int32) => (if (20 : Int32) ≤ x19 then some (0, x18, S) else loopK (fun (rec20 : Int32 → Int32 → Option (jR jS)) (x21 : Int32) (x22 : Int32) => (if (8 : Int32) ≤ x22 then joinK (fun (x24 : Int32) => letE (x18 + x24) fun x25 => letE (x19 + (1 : Int32)) fun x26 => rec17 x25 x26) (fun k23 => (if x21 = (0 : Int32) then k23 (0 : Int32) else k23 (1 : Int32))) else joinK (fun (x31 : Int32) => letE (x22 + (1 : Int32)) fun x32 => rec20 x31 x32) (fun k27 => joinK (fun (_ : Unit) => k27 (1 : Int32)) (fun k28 => (if x21 = (0 : Int32) then chk (inb ((((8 : Int32) * x19) + x22)) 160) (chk (inb ((((8 : Int32) * x19) + x22)) 160) ((if (S 376 ((((8 : Int32) * x19) + x22)).toNatClampNeg) = (S 377 ((((8 : Int32) * x19) + x22)).toNatClampNeg) then k27 (0 : Int32) else k28 ()))) else k28 ()))))) (fun _ _ => none) 1000 (0 : Int32) (0 : Int32))) (fun _ _ => none) 1000 (0 : Int32) (0 : Int32)) (fun t v S1 => t = 0 ∧ v = Int32.ofNat (cntB (fun p => anyB (fun f => decide (S 376 (8 * p + f) ≠ S 377 (8 * p + f))) 8) 20) ∧ S1 = S) by
    obtain ⟨t, v, S1, e, rfl, rfl, rfl⟩ := wq_ex hw
    exact e
  refine wq_for (fun (K : Int32 → Int32 → Option (jR jS)) i (b : Int32) => K b i) 20 (fun i x => x = Int32.ofNat (cntB (fun p => anyB (fun f => decide (S 376 (8 * p + f) ≠ S 377 (8 * p + f))) 8) i)) (fun rec17 i x hi hx ih => ?_) (fun rec17 x hx => ?_) 20 0 1000 0 (by omega) (by omega) rfl
  · have e : ((20 : Int32) ≤ Int32.ofNat i) = (20 ≤ i) := n32_le (n := 20) (by omega) (by omega)
    have hs : cntB (fun p => anyB (fun f => decide (S 376 (8 * p + f) ≠ S 377 (8 * p + f))) 8) (i + 1) = cntB (fun p => anyB (fun f => decide (S 376 (8 * p + f) ≠ S 377 (8 * p + f))) 8) i + if anyB (fun f => decide (S 376 (8 * i + f) ≠ S 377 (8 * i + f))) 8 = true then 1 else 0 := rfl
    refine wq_ite (fun h => absurd (Eq.mp e h) (by omega)) (fun _ => ?_)
    refine wq_for (fun (K : Int32 → Int32 → Option (jR jS)) j (b : Int32) => K b j) 8 (fun j y => y = b2i (anyB (fun f => decide (S 376 (8 * i + f) ≠ S 377 (8 * i + f))) j)) (fun rec20 j y hj hy ih2 => ?_) (fun rec20 y hy => ?_) 8 0 1000 0 (by omega) (by omega) rfl
    · have e8 : ((8 : Int32) ≤ Int32.ofNat j) = (8 ≤ j) := n32_le (n := 8) (by omega) (by omega)
      have hs2 : anyB (fun f => decide (S 376 (8 * i + f) ≠ S 377 (8 * i + f))) (j + 1) = (anyB (fun f => decide (S 376 (8 * i + f) ≠ S 377 (8 * i + f))) j || decide (S 376 (8 * i + j) ≠ S 377 (8 * i + j))) := rfl
      have e0 : (y = 0) = (anyB (fun f => decide (S 376 (8 * i + f) ≠ S 377 (8 * i + f))) j = false) := by rw [hy, b2i_0]
      have c160 : inb (Int32.ofNat (8 * i + j)) 160 = true := n32_inb (by omega) (by omega)
      refine wq_ite (fun h => absurd (Eq.mp e8 h) (by omega)) (fun _ => wq_join fun k27 hk27 => wq_join fun k28 hk28 => ?_)
      have fin : ∀ v : Bool, v = anyB (fun f => decide (S 376 (8 * i + f) ≠ S 377 (8 * i + f))) (j + 1) → wq (k27 (b2i v)) (fun t v S1 => t = 0 ∧ v = Int32.ofNat (cntB (fun p => anyB (fun f => decide (S 376 (8 * p + f) ≠ S 377 (8 * p + f))) 8) 20) ∧ S1 = S) := fun v hv => by
        rw [hk27]
        dsimp only
        rw [n32_succ]
        exact wq_let (ih2 _ (by rw [hv]))
      have f1 : true = anyB (fun f => decide (S 376 (8 * i + f) ≠ S 377 (8 * i + f))) (j + 1) → wq (k28 ()) (fun t v S1 => t = 0 ∧ v = Int32.ofNat (cntB (fun p => anyB (fun f => decide (S 376 (8 * p + f) ≠ S 377 (8 * p + f))) 8) 20) ∧ S1 = S) := by
        rw [hk28]
        exact fin true
      rw [n32_8, n32_c (show 8 * i + j ≤ 1000 by omega)]
      refine wq_ite (fun h0 => wq_chk c160 (wq_chk c160 (wq_ite (fun hz => fin false ?_) (fun hz => f1 ?_)))) (fun h0 => f1 ?_)
      · rw [hs2, Eq.mp e0 h0, decide_eq_false (fun h => h hz)]
        rfl
      · rw [hs2, decide_eq_true hz, Bool.or_true]
      · rw [e0] at h0
        rw [hs2, show anyB (fun f => decide (S 376 (8 * i + f) ≠ S 377 (8 * i + f))) j = true by simpa using h0, Bool.true_or]
    · have e0 : (y = 0) = (anyB (fun f => decide (S 376 (8 * i + f) ≠ S 377 (8 * i + f))) 8 = false) := by rw [hy, b2i_0]
      refine wq_ite (fun _ => wq_join fun k23 hk23 => wq_ite (fun h0 => ?_) (fun h0 => ?_)) (fun h => absurd (by decide) h)
      · rw [hk23]
        dsimp only
        rw [n32_succ]
        refine wq_let (wq_let (ih _ ?_))
        rw [hs, Eq.mp e0 h0, hx, Int32.add_zero]
        rfl
      · rw [e0] at h0
        rw [hk23]
        dsimp only
        rw [n32_succ]
        refine wq_let (wq_let (ih _ ?_))
        rw [hs, if_pos (by simpa using h0), hx, n32_succ]
  · exact wq_ite (fun _ => ⟨rfl, hx, rfl⟩) (fun h => absurd (by decide) h)
/-- 7: wouldMove -/
theorem ag_7 {S SM : jS} {L : jLg} (h : InvL S L SM) : ∀ p1, AGv (f_X10_wouldMove S p1) 1 2 0 (f_X11_wouldMove SM p1) (fun S1 SM1 => InvL S1 L SM1) := fun p1 => by
  obtain ⟨G1, eg1, hfG1, hg0, hvG1, _⟩ := (inv_views h).2.1
  have hC : frM (cp7 G1) SM := fun q j hq => by
    unfold cp7
    rw [if_neg (by omega)]
    exact hfG1 q j hq
  have hI3 := inv_fr h frX_r hC
  have c377 : ∀ p, p < 20 → ∀ f, f < 8 → cp7 G1 377 (8 * p + f) = vwM SM p f := fun p hp f hf => by
    unfold cp7
    rw [if_pos ⟨rfl, Nat.zero_le _, by omega⟩]
    exact hvG1 p hp f hf
  have eM : ∀ r, (jbin0 (f_X11_isAudience p1) (fun v5 _ => joinK (fun (S11 : jS) (x12 : Int32) => jbin0 (f_X11_goesWell S11 x12) (fun v13 S14 => (if v13 = (0 : Int32) then some (0, (0 : Int32), S14) else jbin0 (f_X11_findViews S14) (fun _ S15 => jbin0 (f_X11_layBack S15 p1) (fun _ S16 => some (0, Int32.ofNat (cntB (fun p => anyB (fun f => decide (S16 376 (8 * p + f) ≠ S16 377 (8 * p + f))) 8) 20), S16)))))) (fun k6 => (if v5 = (0 : Int32) then k6 (cp7 G1) (1 : Int32) else jbin0 (f_X11_canLay (cp7 G1) p1) (fun v7 S8 => (if v7 = (0 : Int32) then k6 S8 (2 : Int32) else k6 S8 (0 : Int32)))))) = r) → f_X11_wouldMove SM p1 = r := fun r hr => by
    unfold f_X11_wouldMove
    rw [eg1, jbin0_s]
    refine (m_copy_go 160 0 G1 1000 (by omega) (by omega)).trans ?_
    simp only [m_count]
    exact hr
  by_cases hp : 0 ≤ p1 ∧ p1 ≤ 5
  · obtain ⟨a, ha, rfl⟩ := n32_rg (n := 5) (by omega) hp
    rcases lay_eq hI3 ha with ⟨n, c, w, S1, SM6, hcj, hD, hb, ecs, hf1, ecl, hlay⟩ | ⟨S1, SM6, ecs, hf1, ecl, hfM⟩
    · obtain ⟨ns, cs, pos, t1, t2, t3, t4, t5, t6⟩ := h.2.2.1
      have hI1 := inv_fr h (S1 := S1) (fun q j hq => hf1 q j (by omega)) frM_r
      have t1' : RuC S1 ns cs := fun o ho => by
        obtain ⟨⟨a1, a2⟩, a3⟩ := t1 o ho
        exact ⟨⟨⟨a1.1, (hf1 _ _ (by omega)).trans a1.2⟩, fun j hj => (hf1 _ _ (by omega)).trans (a2 j hj)⟩, a3⟩
      have t3' : OrdC S1 29 6 pos := ⟨fun j hj => by rw [hf1 29 j (by omega)]; exact t3.1 j hj, fun i hi => by rw [hf1 29 _ (by omega)]; exact t3.2 i hi⟩
      have e28 : S1 28 = S 28 := funext fun j => hf1 28 j (by omega)
      have t5' : ∀ o, o < 6 → RF (S1 28 o) (cs o) (ns o) := by rw [e28]; exact t5
      have t6' : ∀ o, o < 6 → FixM (fun p k => S1 (3 + p) k) (S1 23) (S1 30) ns cs o := fun o ho => FixM_cong (t6 o ho) (fun p k hp => hf1 _ _ (by omega)) (fun p hp => hf1 23 p (by omega)) (hf1 30 o (by omega)) (fun i hi h64 => hf1 30 _ (by omega))
      have hD1 : DrX S1 a n c w := ⟨hD.1, ⟨⟨hD.1, by rw [hf1 _ _ (by omega)]; exact hD.2.1.1.2⟩, fun j hj => by rw [hf1 _ _ (by omega)]; exact hD.2.1.2 j hj⟩, hD.2.2⟩
      obtain ⟨S2, et, hf2, hF2⟩ := inv_try hI1 ha hD1 (by rw [e28]; exact hb) t1' t3' t4 t5' t6'
      have h2 : ∀ q j, q ≠ 31 → (q < 32 ∨ 36 < q) → S2 q j = S q j := fun q j a1 a2 => by rw [hf2 q j a1 (by omega), hf1 q j (by omega)]
      have hX2 : frX S2 S := fun q j hq => h2 q j (by omega) (by omega)
      have hI2 := inv_fr h hX2 frM_r
      obtain ⟨nd, hnd, d1, d2, d3⟩ := h.2.1 a (by omega)
      have hnn : nd = n := n32_inj (by omega) (by have := hD.1; omega) (d1.symm.trans hD.2.1.1.2)
      obtain ⟨rank, hrk⟩ := new_rank (by omega) (posT t3 t4 t5) hD.2.2.2.2.1 (fun i hi => (t5 i hi).1) hb
      obtain ⟨y1, y2, y3, y4, y5⟩ := hlay
      have hM14 : ∀ q j, ((q = 358 ∧ j = 30) ∨ (359 ≤ q ∧ q ≤ 362) ∨ (372 ≤ q ∧ q ≤ 375) ∨ q = 377 ∨ 378 ≤ q) → jset SM6 358 0 0 q j = cp7 G1 q j := fun q j hq => by rw [jset_ne (by omega), y5 q j (by omega) (by omega) (by omega) (by omega) (by omega)]
      have hV9 : ∀ o, o < 6 → putN ns a n o = 0 ∨ Valid (putC cs a c o) (putN ns a n o) := fun o ho => by
        unfold putN putC
        by_cases hoa : o = a
        · rw [if_pos hoa, if_pos hoa]
          exact Or.inr hD.2.2.2.1
        · rw [if_neg hoa, if_neg hoa]
          exact (t1 o ho).2
      -- who is in which audience, with the draft laid
      obtain ⟨G2, eg2, hfG2, hmG2⟩ := m_gather (S := jset SM6 358 0 0) (cs := putC cs a c) (ns := putN ns a n) (pos := rank) (M := S2 31) hV9 (fun o ho => by
        unfold putN putC
        by_cases hoa : o = a
        · rw [if_pos hoa, if_pos hoa]
          refine ⟨ho, hD.1, by rw [jset_ne (by omega), y4, if_pos hoa, hC 362 a (by omega), d2, hnn], fun j hj => ?_⟩
          have := hD.1
          rw [jset_ne (by omega), y3, if_pos (by omega), hC 361 _ (by omega), hoa, hcj]
          exact (d3 j (by omega)).1.symm
        · rw [if_neg hoa, if_neg hoa]
          have hno := (t1 o ho).1.1.1
          refine ⟨ho, hno, by rw [jset_ne (by omega), y4, if_neg hoa, hC 364 o (by omega)]; exact (t2 o ho).1, fun j hj => ?_⟩
          rw [jset_ne (by omega), y3, if_neg (by omega), hC 363 _ (by omega), ← (t2 o ho).2 j (by omega)]
          have := (t1 o ho).1.2 j hj
          rw [show 39 + 4 * o + 1 = 40 + 4 * o by omega] at this
          exact this) (fun o ho => ⟨(hF2 o ho).1, fun p hp => by
          rw [(hF2 o ho).2 p hp]
          refine ev_cong (fun _ _ => rfl) fun i hi _ => tst_ats (fun k hk => ?_) ?_
          · rw [hM14 359 _ (by omega), hC 359 _ (by omega)]
            show S1 (3 + p) k = SM 359 (3 * p + k)
            rw [hf1 _ _ (by omega)]
            exact (h.1 p hp).1 k hk
          · rw [hM14 360 _ (by omega), hC 360 _ (by omega), hf1 _ _ (by omega)]
            exact (h.1 p hp).2.1⟩) (fun o ho => ⟨(hrk o ho).1, fun i hi h64 => by
          have hlt := ref_lt (hV9 o ho) hi h64
          refine (hrk o ho).2 _ hlt ?_
          unfold putN at hi
          unfold putC at h64 hlt ⊢
          by_cases hoa : o = a
          · rw [if_pos hoa] at hi h64 hlt ⊢
            rw [if_pos hoa]
            exact (hD.2.2.2.2.2 _ hlt).mpr ⟨i, hi, h64, rfl⟩
          · rw [if_neg hoa] at hi h64 hlt ⊢
            rw [if_neg hoa]
            exact ((t5 o ho).2 _ hlt).mpr ⟨i, hi, h64, rfl⟩⟩)
      have hG2 : ∀ q j, ((q = 358 ∧ j = 30) ∨ (359 ≤ q ∧ q ≤ 362) ∨ (372 ≤ q ∧ q ≤ 375) ∨ 378 ≤ q) → G2 q j = SM q j := fun q j hq => by rw [hfG2 q j (by omega), hM14 q j (by omega), hC q j (by omega)]
      obtain ⟨hT, posn, hO, hpos⟩ := h.2.2.2.2.1
      have iF : IFl S2 G2 := IFl_c hI2.2.2.2.1 (fun _ _ _ _ => rfl) (fun q j _ _ => hG2 q j (by omega))
      have iT : ITr S2 G2 := ITr_c hI2.2.2.2.2.2.1 (fun _ _ _ _ => rfl) (fun q j hq => hG2 q j (by omega))
      have iP : IPa S2 G2 := IPa_c hI2.2.2.2.2.2.2.1 (fun _ _ _ _ => rfl) (fun q j _ _ => hG2 q j (by omega))
      have hDv : ∀ p, p < 20 → ∀ f, f < 8 → f_X10_decidedView S2 (Int32.ofNat p) (Int32.ofNat f) 31 (82 + 12 * p) = some (0, vv (f_X10_decidedView S2 (Int32.ofNat p) (Int32.ofNat f) 31 (82 + 12 * p)), ()) := fun p hp f hf => by
        obtain ⟨D, eD, _⟩ := dv_eq (S := S2) (SM := G2) (p := p) (f := f) (a3 := 31) (b4 := 82 + 12 * p) iF iT (iP p hp).1 hmG2 hp hf
        rw [eD]
        rfl
      have hO2 : ∀ S9 : jS, (∀ q, q ≠ 80 → q ≠ 81 → S9 q = S2 q) → OrdC S9 64 8 posn ∧ S9 63 = S 63 := fun S9 h9 => by
        have e64 : S9 64 = S 64 := by rw [h9 64 (by omega) (by omega)]; exact funext fun j => h2 64 j (by omega) (by omega)
        have e63 : S9 63 = S 63 := by rw [h9 63 (by omega) (by omega)]; exact funext fun j => h2 63 j (by omega) (by omega)
        exact ⟨⟨fun j hj => by rw [e64]; exact hO.1 j hj, fun i hi => by rw [e64]; exact hO.2 i hi⟩, e63⟩
      have hfv : ∀ S9 : jS, (∀ q, q ≠ 80 → q ≠ 81 → S9 q = S2 q) → ∀ p, p < 20 → ∃ S10, f_X10_findViews S9 81 (Int32.ofNat p) 31 (82 + 12 * p) = some (0, 0, S10) ∧ (∀ q, q ≠ 81 → S10 q = S9 q) ∧ ∀ f, f < 8 → S10 81 f = stepV (S2 (82 + 12 * p + 10) f) (S2 (82 + 12 * p + 11) f) (S 63 f) (vv (f_X10_decidedView S2 (Int32.ofNat p) (Int32.ofNat f) 31 (82 + 12 * p))) (S10 81) := fun S9 h9 p hp => by
        obtain ⟨o1, o2⟩ := hO2 S9 h9
        obtain ⟨S10, e10, f10, v10⟩ := f_findViews (S := S9) (a1 := 81) (a3 := 31) (b4 := 82 + 12 * p) (p := p) (pos := posn) (D := fun f => vv (f_X10_decidedView S2 (Int32.ofNat p) (Int32.ofNat f) 31 (82 + 12 * p))) (Or.inr rfl) (by omega) (by omega) o1 (fun f hf => by rw [o2]; exact (hT f hf).2) (by rw [o2]; exact hpos) (fun f hf => by
          rw [cg_dv2 (S := S2) (b := 82 + 12 * p) (fun q a1 a2 => h9 q (by omega) (by omega)) (h9 31 (by omega) (by omega)) (fun t ht => by rw [h9 _ (by omega) (by omega)])]
          exact hDv p hp f hf)
        refine ⟨S10, e10, f10, fun f hf => ?_⟩
        rw [v10 f hf, h9 _ (by omega) (by omega), h9 (82 + 12 * p + 11) (by omega) (by omega), o2]
      have hV : ∃ V : Nat → Nat → Int32, ∀ p, p < 20 → ∀ f, f < 8 → V p f = stepV (S2 (82 + 12 * p + 10) f) (S2 (82 + 12 * p + 11) f) (S 63 f) (vv (f_X10_decidedView S2 (Int32.ofNat p) (Int32.ofNat f) 31 (82 + 12 * p))) (V p) := by
        refine ⟨fun p f => match f_X10_findViews S2 81 (Int32.ofNat p) 31 (82 + 12 * p) with | some (_, _, S1) => S1 81 f | none => 0, fun p hp f hf => ?_⟩
        obtain ⟨S10, e10, _, v10⟩ := hfv S2 (fun _ _ _ => rfl) p hp
        dsimp only
        rw [e10]
        exact v10 f hf
      obtain ⟨V, hV⟩ := hV
      obtain ⟨G3, er, hf3, hV3⟩ := m_rounds (S := S2) (G := G2) (a3 := 31) (pos := posn) (V := V) iF iT iP hmG2 (fun i hi => ⟨(hO.2 i hi).1, fun j hj hb => hpos i hi j hj (by rw [(hT i hi).1, ← hG2 375 i (by omega)]; exact hb)⟩) (fun p hp f hf => by
        obtain ⟨_, q2, q3, _⟩ := (iP p hp).2.2 f hf
        rw [hV p hp f hf, q2, q3, hG2 375 f (by omega), (hT f hf).1])
      have efv : f_X11_findViews (jset SM6 358 0 0) = some (0, 0, G3) := by
        unfold f_X11_findViews
        rw [eg2, jbin0_s]
        exact er
      obtain ⟨S16, elb, b1, b2, b3⟩ := m_layBack (S := G3) ha
      have hG3 : ∀ q j, q ≠ 376 → q ≠ 367 → ¬ (369 ≤ q ∧ q ≤ 371) → G3 q j = jset SM6 358 0 0 q j := fun q j a1 a2 a3 => by rw [hf3 q a1, hfG2 q j (by omega)]
      have hfin : frM S16 SM := fun q j hq => by
        by_cases q3 : q = 363
        · rw [q3, b1]
          by_cases hj : 60 * a ≤ j ∧ j < 60 * a + 60
          · rw [if_pos hj, hG3 365 _ (by omega) (by omega) (by omega), jset_ne (by omega), y2 _ (by omega), hC 363 _ (by omega)]
            congr 1
            omega
          · rw [if_neg hj, hG3 363 _ (by omega) (by omega) (by omega), jset_ne (by omega), y3, if_neg hj, hC 363 _ (by omega)]
        · by_cases q4 : q = 364
          · rw [q4, b2]
            by_cases hj : j = a
            · rw [if_pos hj, hG3 358 8 (by omega) (by omega) (by omega), jset_ne (by omega), y1, hC 364 a (by omega), hj]
            · rw [if_neg hj, hG3 364 _ (by omega) (by omega) (by omega), jset_ne (by omega), y4, if_neg hj, hC 364 _ (by omega)]
          · rw [b3 q j q3 q4, hf3 q (by omega)]
            exact hG2 q j (by omega)
      have hcnt : cntB (fun p => anyB (fun f => decide (S16 376 (8 * p + f) ≠ S16 377 (8 * p + f))) 8) 20 = cntB (fun p => anyB (fun f => decide (vwM SM p f ≠ V p f)) 8) 20 := cntB_c 20 fun p hp => anyB_c fun f hf => by
        rw [b3 376 _ (by omega) (by omega), b3 377 _ (by omega) (by omega), hV3 p hp f hf, hG3 377 _ (by omega) (by omega) (by omega), hM14 377 _ (by omega), c377 p hp f hf]
        exact decide_eq_decide.mpr ⟨fun h e => h e.symm, fun h e => h e.symm⟩
      -- the class
      have hcl : wq (loopK (fun (rec3 : jS → Int32 → Int32 → Option (jR jS)) (S4 : jS) (x5 : Int32) (x6 : Int32) => (if (20 : Int32) ≤ x6 then some (0, x5, S4) else chk (inb x6 20) (jbin0 (f_X10_findViews S4 80 x6 30 (82 + 12 * x6.toNatClampNeg)) (fun _ S8 => chk (inb x6 20) (jbin0 (f_X10_findViews S8 81 x6 31 (82 + 12 * x6.toNatClampNeg)) (fun _ S10 => jbin0 (f_X10_differ S10 80 81) (fun v11 _ => joinK (fun (x14 : Int32) => letE (x6 + (1 : Int32)) fun x15 => rec3 S10 x14 x15) (fun k12 => (if v11 = (0 : Int32) then k12 x5 else letE (x5 + (1 : Int32)) fun x13 => k12 x13))))))))) (fun _ _ _ => none) 1000 S2 (0 : Int32) (0 : Int32)) (fun t v9 S9 => t = 0 ∧ v9 = Int32.ofNat (cntB (fun p => anyB (fun f => decide (vwM SM p f ≠ V p f)) 8) 20) ∧ ∀ q, q ≠ 80 → q ≠ 81 → S9 q = S2 q) := by
        refine wq_for (fun (K : jS → Int32 → Int32 → Option (jR jS)) i (b : jS × Int32) => K b.1 b.2 i) 20 (fun i b => (∀ q, q ≠ 80 → q ≠ 81 → b.1 q = S2 q) ∧ b.2 = Int32.ofNat (cntB (fun p => anyB (fun f => decide (vwM SM p f ≠ V p f)) 8) i)) (fun rec i b hi hb ih => ?_) (fun rec b hb => ?_) 20 0 1000 (S2, 0) (by omega) (by omega) ⟨fun _ _ _ => rfl, rfl⟩
        · obtain ⟨S4, x⟩ := b
          obtain ⟨hf4, hx⟩ := hb
          dsimp only at hf4 hx ⊢
          have e : ((20 : Int32) ≤ Int32.ofNat i) = (20 ≤ i) := n32_le (n := 20) (by omega) (by omega)
          have hI4 : InvL S4 L SM := inv_fr hI2 (fun q j hq => by rw [hf4 q (by omega) (by omega)]) frM_r
          obtain ⟨S8, e8, hf8, hv8⟩ := (inv_views hI4).1 i hi
          have h82 : ∀ q, q ≠ 80 → q ≠ 81 → S8 q = S2 q := fun q a1 a2 => (hf8 q a1).trans (hf4 q a1 a2)
          obtain ⟨S10, e10, hf10, hv10⟩ := hfv S8 h82 i hi
          have hu := views_uniq (ho := fun f => S2 (82 + 12 * i + 10) f) (fz := fun f => S2 (82 + 12 * i + 11) f) (nd := fun f => S 63 f) (D := fun f => vv (f_X10_decidedView S2 (Int32.ofNat i) (Int32.ofNat f) 31 (82 + 12 * i))) (V := S10 81) (V1 := V i) (pos := posn) hpos hv10 (hV i hi)
          have hc20 := in20 (show i ≤ 19 by omega)
          have hs : cntB (fun p => anyB (fun f => decide (vwM SM p f ≠ V p f)) 8) (i + 1) = cntB (fun p => anyB (fun f => decide (vwM SM p f ≠ V p f)) 8) i + if anyB (fun f => decide (vwM SM i f ≠ V i f)) 8 = true then 1 else 0 := rfl
          refine wq_ite (fun h => absurd (Eq.mp e h) (by omega)) (fun _ => wq_chk hc20 ?_)
          rw [n32_c (show i ≤ 1000 by omega), e8, jbin0_s]
          refine wq_chk hc20 ?_
          have hdd : anyB (fun f => decide (S10 80 f ≠ S10 81 f)) 8 = anyB (fun f => decide (vwM SM i f ≠ V i f)) 8 := anyB_c fun f hf => by
            rw [hf10 80 (by omega), hv8 f hf, hu f hf]
          rw [e10, jbin0_s, f_differ, jbin0_s, hdd]
          refine wq_join fun k12 hk12 => ?_
          have h10 : ∀ q, q ≠ 80 → q ≠ 81 → S10 q = S2 q := fun q a1 a2 => (hf10 q a2).trans (h82 q a1 a2)
          cases hm : anyB (fun f => decide (vwM SM i f ≠ V i f)) 8
          · rw [if_pos (show b2i false = 0 from rfl), hk12]
            dsimp only
            rw [n32_succ]
            refine wq_let (ih (S10, x) ⟨h10, ?_⟩)
            dsimp only
            rw [hs, hm, hx]
            rfl
          · rw [if_neg (show ¬ b2i true = 0 by decide), hk12]
            refine wq_let ?_
            rw [n32_succ]
            refine wq_let (ih (S10, x + 1) ⟨h10, ?_⟩)
            dsimp only
            rw [hs, hm, if_pos rfl, hx, n32_succ]
        · exact wq_ite (fun _ => ⟨rfl, hb.2, hb.1⟩) (fun h => absurd (by decide) h)
      obtain ⟨t9, v9, S9, ec, rfl, rfl, hf9⟩ := wq_ex hcl
      refine AGv_ok (v := Int32.ofNat (cntB (fun p => anyB (fun f => decide (vwM SM p f ≠ V p f)) 8) 20)) (S1 := S9) (SM1 := S16) ?_ (eM _ ?_) ?_ (inv_fr hI2 (fun q j hq => by rw [hf9 q (by omega) (by omega)]) hfin) (n32_big (Nat.le_trans cntB_le9 (by decide)))
      · unfold f_X10_wouldMove
        rw [f_aud_y hp, jbind_s, ecs, jbind_s, et, jbin0_s]
        exact ec
      · unfold joinK
        rw [m_audience, jbin0_s, rg_1 hp]
        dsimp only
        rw [if_neg (by decide), ecl, jbin0_s, if_neg (by decide), m_w0, jbin0_s, if_neg (by decide), efv, jbin0_s, elb, jbin0_s, hcnt]
      · rw [b3 358 0 (by omega) (by omega), hG3 358 0 (by omega) (by omega) (by omega), jset_at]
    · refine AGv_2 (v := 0) (v2 := 0) (S1 := S1) (SM1 := jset SM6 358 0 2) ?_ (eM _ ?_) jset_at (by decide) (inv_fr h (fun q j hq => hf1 q j (by omega)) (frM_t frM_thrown (frM_t hfM hC)))
      · unfold f_X10_wouldMove
        rw [f_aud_y hp, jbind_s, ecs]
        rfl
      · unfold joinK
        rw [m_audience, jbin0_s, rg_1 hp]
        dsimp only
        rw [if_neg (by decide), ecl, jbin0_s, if_pos rfl, m_w2, jbin0_s, if_pos rfl]
  · refine AGv_1 (v := 0) (v2 := 0) (S1 := S) (SM1 := jset (cp7 G1) 358 0 1) ?_ (eM _ ?_) jset_at (by decide) (inv_thr hI3)
    · unfold f_X10_wouldMove
      rw [f_aud_n hp, jbind_t]
    · unfold joinK
      rw [m_audience, jbin0_s, rg_0 hp]
      dsimp only
      rw [if_pos rfl, m_w1, jbin0_s, if_pos rfl]
end MOV
