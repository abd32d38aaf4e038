section STM
theorem bt_out {x : Int32} {j : Nat} (h : 32 ≤ j) : bt x j = false := BitVec.getLsbD_of_ge _ _ h
theorem ne01 {A B : jS} (h : some ((0 : Nat), (0 : Int32), A) = some ((0 : Nat), (1 : Int32), B)) : False := by
  have h2 : (0 : Int32) = 1 := congrArg (fun r : jR jS => r.2.1) (Option.some.inj h)
  exact absurd h2 (by decide)
theorem cs_ok {S : jS} {a n : Nat} {c : Nat → Int32} {w : Int32} (ha : a ≤ 5) (hD : DrX S a n c w) (hb : bt (cclo (S 28) 6 w 6) a = false) : ∃ S1, f_X10_checkSettable S (Int32.ofNat a) = some (0, 0, S1) := by
  obtain ⟨hn, hT, hF, hV, hw⟩ := hD
  have ca : (Int32.ofNat a).toNatClampNeg = a := n32_c (by omega)
  obtain ⟨S1, ef, hf⟩ := f_findFault (S := S) (c := c) (by omega) (by omega) hT.1 hT.2
  have hT1 : TxS S1 (37 + 4 * a) n c := ⟨⟨hn, by rw [hf _ _ (by omega)]; exact hT.1.2⟩, fun j hj => by rw [hf _ _ (by omega)]; exact hT.2 j hj⟩
  obtain ⟨w1, ew, hw1⟩ := f_refs hT1 hV
  have hww : w1 = w := RF_ext hw1 hw
  rw [hww] at ew
  have e28 : S1 (27 + 1) = S 28 := funext fun j => hf 28 j (by omega)
  refine ⟨S1, ?_⟩
  unfold f_X10_checkSettable f_X0_canBeSet f_X0_faultOf joinK
  rw [chk_t (in6 ha), ca, ef, jbin0_s, jbin0_s, hF]
  dsimp only
  rw [if_pos rfl, chk_t (in6 ha), ew, jbin0_s, f_wouldLoop (by omega), jbin0_s, e28, hb_bt (by omega), if_neg (c := bt (cclo (S 28) 6 w 6) a = true) (by rw [hb]; decide), if_pos rfl]
  rfl
/-- a draft that can be set, set -/
theorem set_ok {S SM G SM6 : jS} {L : jLg} (h : InvL S L SM) {a : Nat} (ha : a ≤ 5) (hfG : frM G SM) (hc : f_X11_canLay G (Int32.ofNat a) = some (0, 1, SM6)) :
    ∃ (n : Nat) (c : Nat → Int32) (w : Int32) (S7 : jS) (M : Int32), f_X10_set S (Int32.ofNat a) = some (0, pc (S 30 a ^^^ M), S7) ∧ InvL S7 L (jset SM6 358 0 0) ∧ S7 30 a = M ∧ bits 20 (S 30 a) ∧ bits 20 M ∧ Laid a SM6 G ∧ DrX S7 a n c w ∧ bt (cclo (S7 28) 6 w 6) a = false := by
  have hI0 := inv_fr h frX_r hfG
  have hp : (0 : Int32) ≤ Int32.ofNat a ∧ Int32.ofNat a ≤ 5 := r5 ha
  have ca : (Int32.ofNat a).toNatClampNeg = a := n32_c (by omega)
  have c6 := in6 ha
  obtain ⟨n, c, w, S1, hcj, hD, hb, ecs, hf1, hlay⟩ : ∃ (n : Nat) (c : Nat → Int32) (w : Int32) (S1 : jS), (∀ j, c j = S (38 + 4 * a) j) ∧ DrX S a n c w ∧ bt (cclo (S 28) 6 w 6) a = false ∧ f_X10_checkSettable S (Int32.ofNat a) = some (0, 0, S1) ∧ (∀ q j, q ≠ 32 → S1 q j = S q j) ∧ Laid a SM6 G := by
    rcases lay_eq hI0 ha with ⟨n, c, w, S1, SM9, hcj, hD, hb, ecs, hf1, ecl, hlay⟩ | ⟨S1, SM9, ecs, hf1, ecl, hfM⟩
    · cases ecl.symm.trans hc
      exact ⟨n, c, w, S1, hcj, hD, hb, ecs, hf1, hlay⟩
    · exact (ne01 (ecl.symm.trans hc)).elim
  have hlay0 := hlay
  obtain ⟨ns, cs, pos, t1, t2, t3, t4, t5, t6⟩ := h.2.2.1
  have hX1 : frX S1 S := fun q j hq => hf1 q j (by omega)
  have hI1 := inv_fr h hX1 frM_r
  -- the class tries
  have t1' : RuC S1 ns cs := fun o ho => by
    obtain ⟨⟨a1, a2⟩, a3⟩ := t1 o ho
    exact ⟨⟨⟨a1.1, (hf1 _ _ (by omega)).trans a1.2⟩, fun j hj => (hf1 _ _ (by omega)).trans (a2 j hj)⟩, a3⟩
  have t3' : OrdC S1 29 6 pos := ⟨fun j hj => by rw [hf1 29 j (by omega)]; exact t3.1 j hj, fun i hi => by rw [hf1 29 _ (by omega)]; exact t3.2 i hi⟩
  have e28 : S1 28 = S 28 := funext fun j => hf1 28 j (by omega)
  have t5' : ∀ o, o < 6 → RF (S1 28 o) (cs o) (ns o) := by rw [e28]; exact t5
  have t6' : ∀ o, o < 6 → FixM (fun p k => S1 (3 + p) k) (S1 23) (S1 30) ns cs o := fun o ho => FixM_cong (t6 o ho) (fun p k hp => hf1 _ _ (by omega)) (fun p hp => hf1 23 p (by omega)) (hf1 30 o (by omega)) (fun i hi h64 => hf1 30 _ (by omega))
  have hD1 : DrX S1 a n c w := ⟨hD.1, ⟨⟨hD.1, by rw [hf1 _ _ (by omega)]; exact hD.2.1.1.2⟩, fun j hj => by rw [hf1 _ _ (by omega)]; exact hD.2.1.2 j hj⟩, hD.2.2⟩
  obtain ⟨S2, et, hf2, hF2⟩ := inv_try hI1 ha hD1 (by rw [e28]; exact hb) t1' t3' t4 t5' t6'
  have h2 : ∀ q j, q ≠ 31 → (q < 32 ∨ 36 < q) → S2 q j = S q j := fun q j a1 a2 => by rw [hf2 q j a1 (by omega), hf1 q j (by omega)]
  -- the rank of the new references
  obtain ⟨rank, hrk⟩ := new_rank (by omega) (posT t3 t4 t5) hD.2.2.2.2.1 (fun i hi => (t5 i hi).1) hb
  have e282 : S2 28 = S 28 := funext fun j => h2 28 j (by omega) (by omega)
  have hD2 : DrX S2 a n c w := ⟨hD.1, ⟨⟨hD.1, by rw [h2 _ _ (by omega) (by omega)]; exact hD.2.1.1.2⟩, fun j hj => by rw [h2 _ _ (by omega) (by omega)]; exact hD.2.1.2 j hj⟩, hD.2.2⟩
  obtain ⟨nd, hnd, d1, d2, d3⟩ := h.2.1 a (by omega)
  obtain ⟨S7, pos7, ead, g40, g39, g28, gO, gpos, g30, go⟩ := f_adopt (rank := rank) ha hD2 (fun j hj => by rw [h2 _ _ (by omega) (by omega)]; exact (d3 j hj).2) (fun i hi => by rw [e282]; exact (t5 i hi).1) (fun i hi => ⟨(hrk i hi).1, fun j hj hbt => (hrk i hi).2 j hj (by rw [e282] at hbt; exact hbt)⟩)
  have h7 : ∀ q j, q ≠ 28 → q ≠ 29 → q ≠ 30 → q ≠ 31 → q ≠ 39 + 4 * a → q ≠ 40 + 4 * a → (q < 32 ∨ 36 < q) → S7 q j = S q j := fun q j a1 a2 a3 a4 a5 a6 a7 => by rw [go q j a1 a2 a3 a5 a6, h2 q j a4 a7]
  obtain ⟨y1, y2, y3, y4, y5⟩ := hlay
  have hM6 : ∀ q j, (359 ≤ q ∧ q ≤ 362) ∨ (372 ≤ q ∧ q ≤ 375) ∨ 378 ≤ q ∨ (q = 358 ∧ j ≠ 8) → SM6 q j = G q j := fun q j hq => y5 q j (by omega) (by omega) (by omega) (by omega) (by omega)
  have hFin : InvL S7 L (jset SM6 358 0 0) := by
    have hMf : ∀ q j, ((q = 358 ∧ j = 30) ∨ (359 ≤ q ∧ q ≤ 362) ∨ (372 ≤ q ∧ q ≤ 375) ∨ 378 ≤ q) → jset SM6 358 0 0 q j = SM q j := fun q j hq => by rw [jset_ne (by omega), hM6 q j (by omega), hfG q j (by omega)]
    obtain ⟨h1, h2', h3, h4, h5, h6, h7', h8⟩ := h
    refine ⟨IPe_c h1 (fun q j _ _ => h7 q j (by omega) (by omega) (by omega) (by omega) (by omega) (by omega) (by omega)) (fun q j _ _ => hMf q j (by omega)), IDr_c h2' (fun o j ho => ⟨h7 _ _ (by omega) (by omega) (by omega) (by omega) (by omega) (by omega) (by omega), h7 _ _ (by omega) (by omega) (by omega) (by omega) (by omega) (by omega) (by omega)⟩) (fun q j _ _ => hMf q j (by omega)), ?_, IFl_c h4 (fun q j _ _ => h7 q j (by omega) (by omega) (by omega) (by omega) (by omega) (by omega) (by omega)) (fun q j _ _ => hMf q j (by omega)), INe_c h5 (fun q j _ _ => h7 q j (by omega) (by omega) (by omega) (by omega) (by omega) (by omega) (by omega)) (fun j => hMf 375 j (by omega)), ITr_c h6 (fun q j _ _ => h7 q j (by omega) (by omega) (by omega) (by omega) (by omega) (by omega) (by omega)) (fun q j hq => hMf q j (by omega)), IPa_c h7' (fun q j _ _ => h7 q j (by omega) (by omega) (by omega) (by omega) (by omega) (by omega) (by omega)) (fun q j _ _ => hMf q j (by omega)), ILo_c h8 (fun q j _ _ => h7 q j (by omega) (by omega) (by omega) (by omega) (by omega) (by omega) (by omega)) (hMf 358 30 (by omega))⟩
    have hnn : nd = n := n32_inj (by omega) (by have := hD.1; omega) (d1.symm.trans hD.2.1.1.2)
    have hRF : ∀ o, o < 6 → RF (S7 28 o) (putC cs a c o) (putN ns a n o) := fun o ho => by
      rw [g28]
      unfold putC putN
      by_cases hoa : o = a
      · rw [if_pos hoa, if_pos hoa, if_pos hoa]
        exact hD.2.2.2.2
      · rw [if_neg hoa, if_neg hoa, if_neg hoa, e282]
        exact t5 o ho
    have hRu : RuC S7 (putN ns a n) (putC cs a c) := fun o ho => by
      unfold putN putC
      by_cases hoa : o = a
      · rw [if_pos hoa, if_pos hoa, hoa]
        refine ⟨⟨⟨hD.1, ?_⟩, fun j hj => ?_⟩, Or.inr hD.2.2.2.1⟩
        · rw [g39, h2 _ _ (by omega) (by omega)]
          exact hD.2.1.1.2
        · rw [show 39 + 4 * a + 1 = 40 + 4 * a by omega, g40 j (by have := hD.1; omega), h2 _ _ (by omega) (by omega), show 38 + 4 * a = 37 + 4 * a + 1 by omega]
          exact hD.2.1.2 j hj
      · rw [if_neg hoa, if_neg hoa]
        obtain ⟨⟨a1, a2⟩, a3⟩ := t1 o ho
        exact ⟨⟨⟨a1.1, by rw [h7 _ _ (by omega) (by omega) (by omega) (by omega) (by omega) (by omega) (by omega)]; exact a1.2⟩, fun j hj => by rw [h7 _ _ (by omega) (by omega) (by omega) (by omega) (by omega) (by omega) (by omega)]; exact a2 j hj⟩, a3⟩
    refine ⟨putN ns a n, putC cs a c, pos7, hRu, fun o ho => ?_, gO, fun o ho => ?_, hRF, fun o ho => ?_⟩
    · rw [jset_ne (by omega), y4]
      unfold putN
      by_cases hoa : o = a
      · rw [if_pos hoa, if_pos hoa, hfG 362 a (by omega), d2, hnn, hoa]
        refine ⟨rfl, fun j hj => ?_⟩
        rw [g40 j hj, h2 _ _ (by omega) (by omega), jset_ne (by omega), y3, if_pos (by omega), hfG 361 _ (by omega)]
        exact (d3 j hj).1
      · rw [if_neg hoa, if_neg hoa, hfG 364 o (by omega)]
        refine ⟨(t2 o ho).1, fun j hj => ?_⟩
        rw [h7 _ _ (by omega) (by omega) (by omega) (by omega) (by omega) (by omega) (by omega), jset_ne (by omega), y3, if_neg (by omega), hfG 363 _ (by omega)]
        exact (t2 o ho).2 j hj
    · intro i hi h64
      have hv9 := (hRu o ho).2
      exact gpos o ho _ (ref_lt hv9 hi h64) (((hRF o ho).2 _ (ref_lt hv9 hi h64)).mpr ⟨i, hi, h64, rfl⟩)
    · refine FixM_cong (hF2 o ho) (fun p k hp => ?_) (fun p hp => ?_) (g30 o ho) (fun i hi h64 => g30 _ (ref_lt (hRu o ho).2 hi h64))
      · rw [h7 _ _ (by omega) (by omega) (by omega) (by omega) (by omega) (by omega) (by omega), hf1 _ _ (by omega)]
      · rw [h7 _ _ (by omega) (by omega) (by omega) (by omega) (by omega) (by omega) (by omega), hf1 _ _ (by omega)]
  have b30 : bits 20 (S 30 a) := (t6 a (by omega)).1
  have b31 : bits 20 (S2 31 a) := (hF2 a (by omega)).1
  refine ⟨n, c, w, S7, S2 31 a, ?_, hFin, g30 a (by omega), b30, b31, hlay0, ⟨hD.1, ⟨⟨hD.1, ?_⟩, fun j hj => ?_⟩, hD.2.2⟩, ?_⟩
  · unfold f_X10_set letE
    dsimp only
    rw [f_aud_y hp, jbind_s, ecs, jbind_s, et, jbin0_s, chk_t c6, chk_t c6, ca, ead, jbin0_s, h2 30 a (by omega) (by omega), f_bitCount, jbin0_s]
  · rw [h7 _ _ (by omega) (by omega) (by omega) (by omega) (by omega) (by omega) (by omega)]
    exact hD.2.1.1.2
  · rw [h7 _ _ (by omega) (by omega) (by omega) (by omega) (by omega) (by omega) (by omega)]
    exact hD.2.1.2 j hj
  · have e7a : S7 28 a = w := by rw [g28, if_pos rfl]
    have b7 : ∀ i, i < 6 → bits 6 (S7 28 i) := fun i hi => by
      rw [g28]
      by_cases hia : i = a
      · rw [if_pos hia]
        exact hD.2.2.2.2.1
      · rw [if_neg hia, e282]
        exact (t5 i hi).1
    have lt6 : ∀ i, i < 6 → ∀ j, bt (S7 28 i) j = true → j < 6 := fun i hi j hj => by
      rcases Nat.lt_or_ge j 6 with h6 | h6
      · exact h6
      · rcases Nat.lt_or_ge j 32 with h32 | h32
        · rw [b7 i hi j h6 h32] at hj
          cases hj
        · rw [bt_out h32] at hj
          cases hj
    cases hbt : bt (cclo (S7 28) 6 w 6) a
    · rfl
    · have hx := cclo_in (X := fun j => j < 6 ∧ pos7 j < pos7 a) (n := 6) (T := S7 28) (w := w) (fun i hi hX j hj => ⟨lt6 i hi j hj, Nat.lt_trans (gpos i hi j (lt6 i hi j hj) hj) hX.2⟩) (fun j hj => by
        rw [← e7a] at hj
        exact ⟨lt6 a (by omega) j hj, gpos a (by omega) j (lt6 a (by omega) j hj) hj⟩) 6 a hbt
      exact absurd hx.2 (Nat.lt_irrefl _)
/-- what would move, counted over the model's state with the draft laid -/
theorem move_ok {S SM SM6 : jS} {L : jLg} (h : InvL S L SM) {a : Nat} (ha : a ≤ 5) (hc : f_X11_canLay SM (Int32.ofNat a) = some (0, 1, SM6)) :
    ∃ S9, f_X10_wouldMove S (Int32.ofNat a) = some (0, Int32.ofNat (cntB (fun p => anyB (fun f => decide (vwM SM p f ≠ vwM (jset SM6 358 0 0) p f)) 8) 20), S9) ∧ InvL S9 L SM := by
  have hC : frM SM SM := frM_r
  have hp : (0 : Int32) ≤ Int32.ofNat a ∧ Int32.ofNat a ≤ 5 := r5 ha
  obtain ⟨n, c, w, S1, hcj, hD, hb, ecs, hf1, hlay⟩ : ∃ (n : Nat) (c : Nat → Int32) (w : Int32) (S1 : jS), (∀ j, c j = S (38 + 4 * a) j) ∧ DrX S a n c w ∧ bt (cclo (S 28) 6 w 6) a = false ∧ f_X10_checkSettable S (Int32.ofNat a) = some (0, 0, S1) ∧ (∀ q j, q ≠ 32 → S1 q j = S q j) ∧ Laid a SM6 SM := by
    rcases lay_eq h ha with ⟨n, c, w, S1, SM9, hcj, hD, hb, ecs, hf1, ecl, hlay⟩ | ⟨S1, SM9, ecs, hf1, ecl, hfM⟩
    · cases ecl.symm.trans hc
      exact ⟨n, c, w, S1, hcj, hD, hb, ecs, hf1, hlay⟩
    · exact (ne01 (ecl.symm.trans hc)).elim
  obtain ⟨ns, cs, pos, t1, t2, t3, t4, t5, t6⟩ := h.2.2.1
  have hI1 := inv_fr h (S1 := S1) (fun q j hq => hf1 q j (by omega)) frM_r
  have t1' : RuC S1 ns cs := fun o ho => by
    obtain ⟨⟨a1, a2⟩, a3⟩ := t1 o ho
    exact ⟨⟨⟨a1.1, (hf1 _ _ (by omega)).trans a1.2⟩, fun j hj => (hf1 _ _ (by omega)).trans (a2 j hj)⟩, a3⟩
  have t3' : OrdC S1 29 6 pos := ⟨fun j hj => by rw [hf1 29 j (by omega)]; exact t3.1 j hj, fun i hi => by rw [hf1 29 _ (by omega)]; exact t3.2 i hi⟩
  have e28 : S1 28 = S 28 := funext fun j => hf1 28 j (by omega)
  have t5' : ∀ o, o < 6 → RF (S1 28 o) (cs o) (ns o) := by rw [e28]; exact t5
  have t6' : ∀ o, o < 6 → FixM (fun p k => S1 (3 + p) k) (S1 23) (S1 30) ns cs o := fun o ho => FixM_cong (t6 o ho) (fun p k hp => hf1 _ _ (by omega)) (fun p hp => hf1 23 p (by omega)) (hf1 30 o (by omega)) (fun i hi h64 => hf1 30 _ (by omega))
  have hD1 : DrX S1 a n c w := ⟨hD.1, ⟨⟨hD.1, by rw [hf1 _ _ (by omega)]; exact hD.2.1.1.2⟩, fun j hj => by rw [hf1 _ _ (by omega)]; exact hD.2.1.2 j hj⟩, hD.2.2⟩
  obtain ⟨S2, et, hf2, hF2⟩ := inv_try hI1 ha hD1 (by rw [e28]; exact hb) t1' t3' t4 t5' t6'
  have h2 : ∀ q j, q ≠ 31 → (q < 32 ∨ 36 < q) → S2 q j = S q j := fun q j a1 a2 => by rw [hf2 q j a1 (by omega), hf1 q j (by omega)]
  have hX2 : frX S2 S := fun q j hq => h2 q j (by omega) (by omega)
  have hI2 := inv_fr h hX2 frM_r
  obtain ⟨nd, hnd, d1, d2, d3⟩ := h.2.1 a (by omega)
  have hnn : nd = n := n32_inj (by omega) (by have := hD.1; omega) (d1.symm.trans hD.2.1.1.2)
  obtain ⟨rank, hrk⟩ := new_rank (by omega) (posT t3 t4 t5) hD.2.2.2.2.1 (fun i hi => (t5 i hi).1) hb
  obtain ⟨y1, y2, y3, y4, y5⟩ := hlay
  have hM14 : ∀ q j, ((q = 358 ∧ j = 30) ∨ (359 ≤ q ∧ q ≤ 362) ∨ (372 ≤ q ∧ q ≤ 375) ∨ q = 377 ∨ 378 ≤ q) → jset SM6 358 0 0 q j = SM q j := fun q j hq => by rw [jset_ne (by omega), y5 q j (by omega) (by omega) (by omega) (by omega) (by omega)]
  have hV9 : ∀ o, o < 6 → putN ns a n o = 0 ∨ Valid (putC cs a c o) (putN ns a n o) := fun o ho => by
    unfold putN putC
    by_cases hoa : o = a
    · rw [if_pos hoa, if_pos hoa]
      exact Or.inr hD.2.2.2.1
    · rw [if_neg hoa, if_neg hoa]
      exact (t1 o ho).2
  -- who is in which audience, with the draft laid
  obtain ⟨G2, eg2, hfG2, hmG2⟩ := m_gather (S := jset SM6 358 0 0) (cs := putC cs a c) (ns := putN ns a n) (pos := rank) (M := S2 31) hV9 (fun o ho => by
    unfold putN putC
    by_cases hoa : o = a
    · rw [if_pos hoa, if_pos hoa]
      refine ⟨ho, hD.1, by rw [jset_ne (by omega), y4, if_pos hoa, hC 362 a (by omega), d2, hnn], fun j hj => ?_⟩
      have := hD.1
      rw [jset_ne (by omega), y3, if_pos (by omega), hC 361 _ (by omega), hoa, hcj]
      exact (d3 j (by omega)).1.symm
    · rw [if_neg hoa, if_neg hoa]
      have hno := (t1 o ho).1.1.1
      refine ⟨ho, hno, by rw [jset_ne (by omega), y4, if_neg hoa, hC 364 o (by omega)]; exact (t2 o ho).1, fun j hj => ?_⟩
      rw [jset_ne (by omega), y3, if_neg (by omega), hC 363 _ (by omega), ← (t2 o ho).2 j (by omega)]
      have := (t1 o ho).1.2 j hj
      rw [show 39 + 4 * o + 1 = 40 + 4 * o by omega] at this
      exact this) (fun o ho => ⟨(hF2 o ho).1, fun p hp => by
      rw [(hF2 o ho).2 p hp]
      refine ev_cong (fun _ _ => rfl) fun i hi _ => tst_ats (fun k hk => ?_) ?_
      · rw [hM14 359 _ (by omega), hC 359 _ (by omega)]
        show S1 (3 + p) k = SM 359 (3 * p + k)
        rw [hf1 _ _ (by omega)]
        exact (h.1 p hp).1 k hk
      · rw [hM14 360 _ (by omega), hC 360 _ (by omega), hf1 _ _ (by omega)]
        exact (h.1 p hp).2.1⟩) (fun o ho => ⟨(hrk o ho).1, fun i hi h64 => by
      have hlt := ref_lt (hV9 o ho) hi h64
      refine (hrk o ho).2 _ hlt ?_
      unfold putN at hi
      unfold putC at h64 hlt ⊢
      by_cases hoa : o = a
      · rw [if_pos hoa] at hi h64 hlt ⊢
        rw [if_pos hoa]
        exact (hD.2.2.2.2.2 _ hlt).mpr ⟨i, hi, h64, rfl⟩
      · rw [if_neg hoa] at hi h64 hlt ⊢
        rw [if_neg hoa]
        exact ((t5 o ho).2 _ hlt).mpr ⟨i, hi, h64, rfl⟩⟩)
  have hG2 : ∀ q j, ((q = 358 ∧ j = 30) ∨ (359 ≤ q ∧ q ≤ 362) ∨ (372 ≤ q ∧ q ≤ 375) ∨ 378 ≤ q) → G2 q j = SM q j := fun q j hq => by rw [hfG2 q j (by omega), hM14 q j (by omega), hC q j (by omega)]
  obtain ⟨hT, posn, hO, hpos⟩ := h.2.2.2.2.1
  have iF : IFl S2 G2 := IFl_c hI2.2.2.2.1 (fun _ _ _ _ => rfl) (fun q j _ _ => hG2 q j (by omega))
  have iT : ITr S2 G2 := ITr_c hI2.2.2.2.2.2.1 (fun _ _ _ _ => rfl) (fun q j hq => hG2 q j (by omega))
  have iP : IPa S2 G2 := IPa_c hI2.2.2.2.2.2.2.1 (fun _ _ _ _ => rfl) (fun q j _ _ => hG2 q j (by omega))
  have hDv : ∀ p, p < 20 → ∀ f, f < 8 → f_X10_decidedView S2 (Int32.ofNat p) (Int32.ofNat f) 31 (82 + 12 * p) = some (0, vv (f_X10_decidedView S2 (Int32.ofNat p) (Int32.ofNat f) 31 (82 + 12 * p)), ()) := fun p hp f hf => by
    obtain ⟨D, eD, _⟩ := dv_eq (S := S2) (SM := G2) (p := p) (f := f) (a3 := 31) (b4 := 82 + 12 * p) iF iT (iP p hp).1 hmG2 hp hf
    rw [eD]
    rfl
  have hO2 : ∀ S9 : jS, (∀ q, q ≠ 80 → q ≠ 81 → S9 q = S2 q) → OrdC S9 64 8 posn ∧ S9 63 = S 63 := fun S9 h9 => by
    have e64 : S9 64 = S 64 := by rw [h9 64 (by omega) (by omega)]; exact funext fun j => h2 64 j (by omega) (by omega)
    have e63 : S9 63 = S 63 := by rw [h9 63 (by omega) (by omega)]; exact funext fun j => h2 63 j (by omega) (by omega)
    exact ⟨⟨fun j hj => by rw [e64]; exact hO.1 j hj, fun i hi => by rw [e64]; exact hO.2 i hi⟩, e63⟩
  have hfv : ∀ S9 : jS, (∀ q, q ≠ 80 → q ≠ 81 → S9 q = S2 q) → ∀ p, p < 20 → ∃ S10, f_X10_findViews S9 81 (Int32.ofNat p) 31 (82 + 12 * p) = some (0, 0, S10) ∧ (∀ q, q ≠ 81 → S10 q = S9 q) ∧ ∀ f, f < 8 → S10 81 f = stepV (S2 (82 + 12 * p + 10) f) (S2 (82 + 12 * p + 11) f) (S 63 f) (vv (f_X10_decidedView S2 (Int32.ofNat p) (Int32.ofNat f) 31 (82 + 12 * p))) (S10 81) := fun S9 h9 p hp => by
    obtain ⟨o1, o2⟩ := hO2 S9 h9
    obtain ⟨S10, e10, f10, v10⟩ := f_findViews (S := S9) (a1 := 81) (a3 := 31) (b4 := 82 + 12 * p) (p := p) (pos := posn) (D := fun f => vv (f_X10_decidedView S2 (Int32.ofNat p) (Int32.ofNat f) 31 (82 + 12 * p))) (Or.inr rfl) (by omega) (by omega) o1 (fun f hf => by rw [o2]; exact (hT f hf).2) (by rw [o2]; exact hpos) (fun f hf => by
      rw [cg_dv2 (S := S2) (b := 82 + 12 * p) (fun q a1 a2 => h9 q (by omega) (by omega)) (h9 31 (by omega) (by omega)) (fun t ht => by rw [h9 _ (by omega) (by omega)])]
      exact hDv p hp f hf)
    refine ⟨S10, e10, f10, fun f hf => ?_⟩
    rw [v10 f hf, h9 _ (by omega) (by omega), h9 (82 + 12 * p + 11) (by omega) (by omega), o2]
  have hV : ∃ V : Nat → Nat → Int32, ∀ p, p < 20 → ∀ f, f < 8 → V p f = stepV (S2 (82 + 12 * p + 10) f) (S2 (82 + 12 * p + 11) f) (S 63 f) (vv (f_X10_decidedView S2 (Int32.ofNat p) (Int32.ofNat f) 31 (82 + 12 * p))) (V p) := by
    refine ⟨fun p f => match f_X10_findViews S2 81 (Int32.ofNat p) 31 (82 + 12 * p) with | some (_, _, S1) => S1 81 f | none => 0, fun p hp f hf => ?_⟩
    obtain ⟨S10, e10, _, v10⟩ := hfv S2 (fun _ _ _ => rfl) p hp
    dsimp only
    rw [e10]
    exact v10 f hf
  obtain ⟨V, hV⟩ := hV
  obtain ⟨G3, er, hf3, hV3⟩ := m_rounds (S := S2) (G := G2) (a3 := 31) (pos := posn) (V := V) iF iT iP hmG2 (fun i hi => ⟨(hO.2 i hi).1, fun j hj hb => hpos i hi j hj (by rw [(hT i hi).1, ← hG2 375 i (by omega)]; exact hb)⟩) (fun p hp f hf => by
    obtain ⟨_, q2, q3, _⟩ := (iP p hp).2.2 f hf
    rw [hV p hp f hf, q2, q3, hG2 375 f (by omega), (hT f hf).1])
  have efv : f_X11_findViews (jset SM6 358 0 0) = some (0, 0, G3) := by
    unfold f_X11_findViews
    rw [eg2, jbin0_s]
    exact er
  -- the class
  have hcl : wq (loopK (fun (rec3 : jS → Int32 → Int32 → Option (jR jS)) (S4 : jS) (x5 : Int32) (x6 : Int32) => (if (20 : Int32) ≤ x6 then some (0, x5, S4) else chk (inb x6 20) (jbin0 (f_X10_findViews S4 80 x6 30 (82 + 12 * x6.toNatClampNeg)) (fun _ S8 => chk (inb x6 20) (jbin0 (f_X10_findViews S8 81 x6 31 (82 + 12 * x6.toNatClampNeg)) (fun _ S10 => jbin0 (f_X10_differ S10 80 81) (fun v11 _ => joinK (fun (x14 : Int32) => letE (x6 + (1 : Int32)) fun x15 => rec3 S10 x14 x15) (fun k12 => (if v11 = (0 : Int32) then k12 x5 else letE (x5 + (1 : Int32)) fun x13 => k12 x13))))))))) (fun _ _ _ => none) 1000 S2 (0 : Int32) (0 : Int32)) (fun t v9 S9 => t = 0 ∧ v9 = Int32.ofNat (cntB (fun p => anyB (fun f => decide (vwM SM p f ≠ V p f)) 8) 20) ∧ ∀ q, q ≠ 80 → q ≠ 81 → S9 q = S2 q) := by
    refine wq_for (fun (K : jS → Int32 → Int32 → Option (jR jS)) i (b : jS × Int32) => K b.1 b.2 i) 20 (fun i b => (∀ q, q ≠ 80 → q ≠ 81 → b.1 q = S2 q) ∧ b.2 = Int32.ofNat (cntB (fun p => anyB (fun f => decide (vwM SM p f ≠ V p f)) 8) i)) (fun rec i b hi hb ih => ?_) (fun rec b hb => ?_) 20 0 1000 (S2, 0) (by omega) (by omega) ⟨fun _ _ _ => rfl, rfl⟩
    · obtain ⟨S4, x⟩ := b
      obtain ⟨hf4, hx⟩ := hb
      dsimp only at hf4 hx ⊢
      have e : ((20 : Int32) ≤ Int32.ofNat i) = (20 ≤ i) := n32_le (n := 20) (by omega) (by omega)
      have hI4 : InvL S4 L SM := inv_fr hI2 (fun q j hq => by rw [hf4 q (by omega) (by omega)]) frM_r
      obtain ⟨S8, e8, hf8, hv8⟩ := (inv_views hI4).1 i hi
      have h82 : ∀ q, q ≠ 80 → q ≠ 81 → S8 q = S2 q := fun q a1 a2 => (hf8 q a1).trans (hf4 q a1 a2)
      obtain ⟨S10, e10, hf10, hv10⟩ := hfv S8 h82 i hi
      have hu := views_uniq (ho := fun f => S2 (82 + 12 * i + 10) f) (fz := fun f => S2 (82 + 12 * i + 11) f) (nd := fun f => S 63 f) (D := fun f => vv (f_X10_decidedView S2 (Int32.ofNat i) (Int32.ofNat f) 31 (82 + 12 * i))) (V := S10 81) (V1 := V i) (pos := posn) hpos hv10 (hV i hi)
      have hc20 := in20 (show i ≤ 19 by omega)
      have hs : cntB (fun p => anyB (fun f => decide (vwM SM p f ≠ V p f)) 8) (i + 1) = cntB (fun p => anyB (fun f => decide (vwM SM p f ≠ V p f)) 8) i + if anyB (fun f => decide (vwM SM i f ≠ V i f)) 8 = true then 1 else 0 := rfl
      refine wq_ite (fun h => absurd (Eq.mp e h) (by omega)) (fun _ => wq_chk hc20 ?_)
      rw [n32_c (show i ≤ 1000 by omega), e8, jbin0_s]
      refine wq_chk hc20 ?_
      have hdd : anyB (fun f => decide (S10 80 f ≠ S10 81 f)) 8 = anyB (fun f => decide (vwM SM i f ≠ V i f)) 8 := anyB_c fun f hf => by
        rw [hf10 80 (by omega), hv8 f hf, hu f hf]
      rw [e10, jbin0_s, f_differ, jbin0_s, hdd]
      refine wq_join fun k12 hk12 => ?_
      have h10 : ∀ q, q ≠ 80 → q ≠ 81 → S10 q = S2 q := fun q a1 a2 => (hf10 q a2).trans (h82 q a1 a2)
      cases hm : anyB (fun f => decide (vwM SM i f ≠ V i f)) 8
      · rw [if_pos (show b2i false = 0 from rfl), hk12]
        dsimp only
        rw [n32_succ]
        refine wq_let (ih (S10, x) ⟨h10, ?_⟩)
        dsimp only
        rw [hs, hm, hx]
        rfl
      · rw [if_neg (show ¬ b2i true = 0 by decide), hk12]
        refine wq_let ?_
        rw [n32_succ]
        refine wq_let (ih (S10, x + 1) ⟨h10, ?_⟩)
        dsimp only
        rw [hs, hm, if_pos rfl, hx, n32_succ]
    · exact wq_ite (fun _ => ⟨rfl, hb.2, hb.1⟩) (fun h => absurd (by decide) h)
  obtain ⟨t9, v9, S9, ec, rfl, rfl, hf9⟩ := wq_ex hcl
  have hV9 : ∀ p, p < 20 → ∀ f, f < 8 → V p f = vwM (jset SM6 358 0 0) p f := fun p hp f hf => by
    unfold vwM
    rw [efv]
    exact (hV3 p hp f hf).symm
  refine ⟨S9, ?_, inv_fr hI2 (fun q j hq => by rw [hf9 q (by omega) (by omega)]) frM_r⟩
  have hcnt : cntB (fun p => anyB (fun f => decide (vwM SM p f ≠ vwM (jset SM6 358 0 0) p f)) 8) 20 = cntB (fun p => anyB (fun f => decide (vwM SM p f ≠ V p f)) 8) 20 := cntB_c 20 fun p hp => anyB_c fun f hf => by rw [hV9 p hp f hf]
  rw [hcnt]
  unfold f_X10_wouldMove
  rw [f_aud_y hp, jbind_s, ecs, jbind_s, et, jbin0_s]
  exact ec
/-- a draft that can't be set -/
theorem set_no {S SM SM6 : jS} {L : jLg} (h : InvL S L SM) {a : Nat} (ha : a ≤ 5) (hc : f_X11_canLay SM (Int32.ofNat a) = some (0, 0, SM6)) : ∃ S1, f_X10_set S (Int32.ofNat a) = some (2, 0, S1) ∧ f_X10_wouldMove S (Int32.ofNat a) = some (2, 0, S1) ∧ InvL S1 L SM := by
  have hp : (0 : Int32) ≤ Int32.ofNat a ∧ Int32.ofNat a ≤ 5 := r5 ha
  rcases lay_eq h ha with ⟨n, c, w, S1, SM9, hcj, hD, hb, ecs, hf1, ecl, hlay⟩ | ⟨S1, SM9, ecs, hf1, ecl, hfM⟩
  · exact (ne01 (hc.symm.trans ecl)).elim
  · refine ⟨S1, ?_, ?_, inv_X h (fun q j hq => hf1 q j (by omega))⟩
    · unfold f_X10_set
      rw [f_aud_y hp, jbind_s, ecs]
      rfl
    · unfold f_X10_wouldMove
      rw [f_aud_y hp, jbind_s, ecs]
      rfl
theorem can_or {S SM : jS} {L : jLg} (h : InvL S L SM) {a : Nat} (ha : a ≤ 5) : (∃ SM6, f_X11_canLay SM (Int32.ofNat a) = some (0, 1, SM6)) ∨ ∃ SM6, f_X11_canLay SM (Int32.ofNat a) = some (0, 0, SM6) := by
  rcases lay_eq h ha with ⟨n, c, w, S1, SM9, hcj, hD, hb, ecs, hf1, ecl, hlay⟩ | ⟨S1, SM9, ecs, hf1, ecl, hfM⟩
  · exact Or.inl ⟨SM9, ecl⟩
  · exact Or.inr ⟨SM9, ecl⟩
theorem vw_same {S SM SM1 : jS} {L : jLg} (h : InvL S L SM) (h1 : InvL S L SM1) {p f : Nat} (hp : p < 20) (hf : f < 8) : vwM SM p f = vwM SM1 p f := by
  obtain ⟨S1, e, _, b⟩ := (inv_views h).1 p hp
  obtain ⟨S2, e2, _, b2⟩ := (inv_views h1).1 p hp
  cases e.symm.trans e2
  exact (b f hf).symm.trans (b2 f hf)
theorem mem_same {S T SM : jS} {L L2 : jLg} (h : InvL S L SM) (h1 : InvL T L2 SM) {a : Nat} (ha : a < 6) : S 30 a = T 30 a := by
  obtain ⟨G, e, _, b⟩ := inv_gather h
  obtain ⟨G2, e2, _, b2⟩ := inv_gather h1
  cases e.symm.trans e2
  exact (b a ha).symm.trans (b2 a ha)
/-- set once more: nothing moves -/
theorem set_again {S SM6 G : jS} {L : jLg} (h : InvL S L (jset SM6 358 0 0)) {a n : Nat} {c : Nat → Int32} {w : Int32} (ha : a ≤ 5) (hl : Laid a SM6 G) (hD : DrX S a n c w) (hb : bt (cclo (S 28) 6 w 6) a = false) :
    ∃ SM7, f_X11_canLay (jset SM6 358 0 0) (Int32.ofNat a) = some (0, 1, SM7) ∧ (∀ S L, InvL S L (jset SM6 358 0 0) → ∃ S1, f_X10_set S (Int32.ofNat a) = some (0, 0, S1) ∧ InvL S1 L (jset SM6 358 0 0) ∧ InvL S1 L (jset SM7 358 0 0)) := by
  obtain ⟨S1, ecs⟩ := cs_ok ha hD hb
  rcases can_or h ha with ⟨SM7, e7⟩ | ⟨SM7, e7⟩
  · refine ⟨SM7, e7, fun S L hS => ?_⟩
    obtain ⟨n, c, w, S7, M, es, hI, e30, _, _, hl2, _, _⟩ := set_ok hS ha frM_r e7
    have hfr : frM (jset SM7 358 0 0) (jset SM6 358 0 0) := fun q j hq => by
      obtain ⟨_, _, y3, y4, y5⟩ := hl
      obtain ⟨_, _, z3, z4, z5⟩ := hl2
      rw [jset_ne (by omega)]
      by_cases q3 : q = 363
      · subst q3
        rw [z3]
        by_cases hj : 60 * a ≤ j ∧ j < 60 * a + 60
        · rw [if_pos hj, jset_ne (by omega), jset_ne (by omega), y3, if_pos hj, y5 361 j (by omega) (by omega) (by omega) (by omega) (by omega)]
        · rw [if_neg hj]
      · by_cases q4 : q = 364
        · subst q4
          rw [z4]
          by_cases hj : j = a
          · rw [if_pos hj, jset_ne (by omega), jset_ne (by omega), y4, if_pos hj, y5 362 a (by omega) (by omega) (by omega) (by omega) (by omega)]
          · rw [if_neg hj]
        · exact z5 q j (by omega) q3 q4 (by omega) (by omega)
    have hI2 := inv_fr hI frX_r (frM_s hfr)
    have hM : M = S 30 a := by rw [← e30]; exact mem_same hI2 hS (by omega)
    refine ⟨S7, ?_, hI2, hI⟩
    rw [es, hM, Int32.xor_self]
    rfl
  · obtain ⟨S2, es, _, _⟩ := set_no h ha e7
    unfold f_X10_set at es
    rw [f_aud_y (r5 ha), jbind_s, ecs, jbind_s] at es
    exact absurd es (fun e => by
      have := th_bin0 (P := fun _ => False) (o := f_X0_tryDraft S1 (Int32.ofNat a)) (fun _ S2 => th_chk (th_chk (th_let (th_bin0 (o := f_X0_adoptDraft S2 (Int32.ofNat a)) (fun _ _ => th_bin0 (fun _ _ => th_some0)))))) 1 0 S2 e
      exact this)
end STM
