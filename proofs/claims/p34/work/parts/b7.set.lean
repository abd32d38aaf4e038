section SETC
theorem cp_char {f : Nat → Int32} (h : ∀ j, j < 60 → 0 ≤ f j ∧ f j ≤ 65535) : cpOk f 0 0 60 60 60 .char = true := by
  unfold cpOk
  rw [Bool.and_eq_true]
  refine ⟨by decide, List.all_eq_true.mpr fun i hi => ?_⟩
  have hi : i < 60 := List.mem_range.mp hi
  have e : (0 : Int32).toNatClampNeg + i = i := Nat.zero_add i
  rw [e]
  show (decide (0 ≤ f i) && decide (f i ≤ 65535)) = true
  rw [decide_eq_true (h i hi).1, decide_eq_true (h i hi).2]
  rfl
theorem cp_int {f : Nat → Int32} : cpOk f 0 0 6 6 6 .int = true := by
  unfold cpOk
  rw [Bool.and_eq_true]
  exact ⟨by decide, List.all_eq_true.mpr fun i _ => rfl⟩
theorem cpy60 {f g : Nat → Int32} {k : Nat} : va_cpy f g (0 : Int32).toNatClampNeg (0 : Int32).toNatClampNeg (60 : Int32).toNatClampNeg k = if k < 60 then f k else g k := by
  show (if 0 ≤ k ∧ k < 0 + 60 then f (0 + (k - 0)) else g k) = _
  by_cases hk : k < 60
  · rw [if_pos ⟨Nat.zero_le _, by omega⟩, if_pos hk, Nat.zero_add, Nat.sub_zero]
  · rw [if_neg (fun h => hk (by omega)), if_neg hk]
theorem cpy6 {f g : Nat → Int32} {k : Nat} : va_cpy f g (0 : Int32).toNatClampNeg (0 : Int32).toNatClampNeg (6 : Int32).toNatClampNeg k = if k < 6 then f k else g k := by
  show (if 0 ≤ k ∧ k < 0 + 6 then f (0 + (k - 0)) else g k) = _
  by_cases hk : k < 6
  · rw [if_pos ⟨Nat.zero_le _, by omega⟩, if_pos hk, Nat.zero_add, Nat.sub_zero]
  · rw [if_neg (fun h => hk (by omega)), if_neg hk]
theorem f_adopt {S : jS} {a n : Nat} {c : Nat → Int32} {w : Int32} {rank : Nat → Nat} (ha : a ≤ 5) (hD : DrX S a n c w) (hch : ∀ j, j < 60 → 0 ≤ S (38 + 4 * a) j ∧ S (38 + 4 * a) j ≤ 65535) (h28 : ∀ i, i < 6 → bits 6 (S 28 i)) (hr : ∀ i, i < 6 → rank i < 6 ∧ ∀ j, j < 6 → bt (if i = a then w else S 28 i) j = true → rank j < rank i) :
    ∃ S7 pos, f_X0_adoptDraft S (Int32.ofNat a) = some (0, 0, S7) ∧ (∀ j, j < 60 → S7 (40 + 4 * a) j = S (38 + 4 * a) j) ∧ S7 (39 + 4 * a) 1 = S (37 + 4 * a) 1 ∧ (∀ o, S7 28 o = if o = a then w else S 28 o) ∧ OrdC S7 29 6 pos ∧ (∀ i, i < 6 → ∀ j, j < 6 → bt (S7 28 i) j = true → pos j < pos i) ∧ (∀ j, j < 6 → S7 30 j = S 31 j) ∧ ∀ q j, q ≠ 28 → q ≠ 29 → q ≠ 30 → q ≠ 39 + 4 * a → q ≠ 40 + 4 * a → S7 q j = S q j := by
  obtain ⟨hn, hT, _, hV, hw⟩ := hD
  have ca : (Int32.ofNat a).toNatClampNeg = a := n32_c (by omega)
  generalize hS1 : jrow S (39 + 4 * a + 1) (va_cpy (S (37 + 4 * a + 1)) (S (39 + 4 * a + 1)) (0 : Int32).toNatClampNeg (0 : Int32).toNatClampNeg (60 : Int32).toNatClampNeg) = S1
  have h1o : ∀ q, q ≠ 40 + 4 * a → S1 q = S q := fun q hq => by
    rw [← hS1]
    exact if_neg (by omega)
  have h1a : ∀ j, j < 60 → S1 (40 + 4 * a) j = S (38 + 4 * a) j := fun j hj => by
    rw [← hS1, show 40 + 4 * a = 39 + 4 * a + 1 by omega]
    unfold jrow
    rw [if_pos rfl, cpy60, if_pos hj, show 37 + 4 * a + 1 = 38 + 4 * a by omega]
  generalize hS3 : jset S1 (39 + 4 * a) 1 (S1 (37 + 4 * a) 1) = S3
  have h3 : ∀ q j, ¬ (q = 39 + 4 * a ∧ j = 1) → S3 q j = S1 q j := fun q j hq => by rw [← hS3, jset_ne hq]
  have h3a : S3 (39 + 4 * a) 1 = S (37 + 4 * a) 1 := by rw [← hS3, jset_at, h1o _ (by omega)]
  have ecp : f_X8_copy S (39 + 4 * a) (37 + 4 * a) = some (0, 0, S3) := by
    unfold f_X8_copy letE
    dsimp only
    rw [chk_t (cp_char fun j hj => by rw [show 37 + 4 * a + 1 = 38 + 4 * a by omega]; exact hch j hj), hS1, hS3]
  have hT3 : TxS S3 (37 + 4 * a) n c := ⟨⟨hn, by rw [h3 _ _ (by omega), h1o _ (by omega)]; exact hT.1.2⟩, fun j hj => by rw [h3 _ _ (by omega), h1o _ (by omega)]; exact hT.2 j hj⟩
  obtain ⟨w1, ew, hw1⟩ := f_refs hT3 hV
  have hww : w1 = w := RF_ext hw1 hw
  rw [hww] at ew
  have e5 : ∀ i, jset S3 (27 + 1) a w (27 + 1) i = if i = a then w else S 28 i := fun i => by
    rw [jset_if]
    by_cases hia : i = a
    · rw [if_pos ⟨rfl, hia⟩, if_pos hia]
    · rw [if_neg (fun h => hia h.2), if_neg hia, h3 _ _ (by omega), h1o _ (by omega)]
  obtain ⟨S6, pos, v, ea, hf6, hO, hpos⟩ := f_arrange (S := jset S3 (27 + 1) a w) (b0 := 27) (n := 6) (rank := rank) (Or.inl rfl) (fun i hi => by
    rw [e5]
    by_cases hia : i = a
    · rw [if_pos hia]
      exact hw.1
    · rw [if_neg hia]
      exact h28 i hi) (fun i hi => ⟨(hr i hi).1, fun j hj hb => (hr i hi).2 j hj (by rw [← e5]; exact hb)⟩)
  refine ⟨jrow S6 30 (va_cpy (S6 31) (S6 30) (0 : Int32).toNatClampNeg (0 : Int32).toNatClampNeg (6 : Int32).toNatClampNeg), pos, ?_, ?_⟩
  · unfold f_X0_adoptDraft f_X4_point letE
    dsimp only
    rw [chk_t (in6 ha), chk_t (in6 ha), ca, ecp, jbin0_s, chk_t (in6 ha), ew, jbin0_s, chk_t (in6 ha), ea, jbin0_s, jbin0_s, chk_t cp_int]
  · have h7 : ∀ q, q ≠ 30 → jrow S6 30 (va_cpy (S6 31) (S6 30) (0 : Int32).toNatClampNeg (0 : Int32).toNatClampNeg (6 : Int32).toNatClampNeg) q = S6 q := fun q hq => if_neg hq
    have h6 : ∀ q j, q ≠ 29 → q ≠ 28 → S6 q j = S3 q j := fun q j a1 a2 => by rw [hf6 q j (by omega), jset_ne (by omega)]
    have h628 : ∀ o, S6 28 o = if o = a then w else S 28 o := fun o => by rw [hf6 28 o (by omega)]; exact e5 o
    refine ⟨fun j hj => ?_, ?_, fun o => ?_, ⟨fun j hj => ?_, fun i hi => ?_⟩, fun i hi j hj hb => ?_, fun j hj => ?_, fun q j a1 a2 a3 a4 a5 => ?_⟩
    · rw [h7 _ (by omega), h6 _ _ (by omega) (by omega), h3 _ _ (by omega)]
      exact h1a j hj
    · rw [h7 _ (by omega), h6 _ _ (by omega) (by omega)]
      exact h3a
    · rw [h7 _ (by omega)]
      exact h628 o
    · rw [h7 _ (by omega)]
      exact hO.1 j hj
    · rw [h7 _ (by omega)]
      exact hO.2 i hi
    · rw [h7 _ (by omega), h628, ← e5] at hb
      exact hpos i hi j hj hb
    · unfold jrow
      rw [if_pos rfl, cpy6, if_pos hj, h6 31 j (by omega) (by omega), h3 _ _ (by omega), h1o _ (by omega)]
    · rw [h7 _ a3, h6 q j a2 a1, h3 _ _ (by omega), h1o _ a5]
/-- what the class tries with a draft -/
theorem inv_try {S SM : jS} {L : jLg} (h : InvL S L SM) {a n : Nat} {c : Nat → Int32} {w : Int32} (ha : a ≤ 5) (hD : DrX S a n c w) (hb : bt (cclo (S 28) 6 w 6) a = false) {ns pos : Nat → Nat} {cs : Nat → Nat → Int32} (t1 : RuC S ns cs) (t3 : OrdC S 29 6 pos) (t4 : ∀ a, a < 6 → PosR pos ns cs a) (t5 : ∀ a, a < 6 → RF (S 28 a) (cs a) (ns a)) (t6 : ∀ a, a < 6 → FixM (fun p k => S (3 + p) k) (S 23) (S 30) ns cs a) :
    ∃ S2, f_X0_tryDraft S (Int32.ofNat a) = some (0, 0, S2) ∧ frS 31 S2 S ∧ ∀ o, o < 6 → FixM (fun p k => S (3 + p) k) (S 23) (S2 31) (putN ns a n) (putC cs a c) o := by
  obtain ⟨hn, hT, _, hV, hw⟩ := hD
  have hpT := posT t3 t4 t5
  refine f_tryDraft (pos := pos) (by omega) t1 t3 t4 hT hV t6 (fun o => bt (cclo (S 28) 6 w 6) o = true) (by rw [hb]; decide) (fun i hi h64 => ?_) (fun o ho hR i hi h64 => ?_)
  · exact cclo_up ((hw.2 _ (ref_lt (Or.inr hV) hi h64)).mpr ⟨i, hi, h64, rfl⟩) 6
  · exact cclo_closed hpT ho hR (((t5 o ho).2 _ (ref_lt (t1 o ho).2 hi h64)).mpr ⟨i, hi, h64, rfl⟩)
/-- 6: set -/
theorem ag_6 {S SM : jS} {L : jLg} (h : InvL S L SM) : ∀ p1, AGv (f_X10_set S p1) 1 2 0 (f_X11_set SM p1) (fun S1 SM1 => InvL S1 L SM1) := fun p1 => by
  obtain ⟨G, eg, hfG, hmG⟩ := inv_gather h
  have hI0 := inv_fr h frX_r (frG_M hfG)
  by_cases hp : 0 ≤ p1 ∧ p1 ≤ 5
  · obtain ⟨a, ha, rfl⟩ := n32_rg (n := 5) (by omega) hp
    have ca : (Int32.ofNat a).toNatClampNeg = a := n32_c (by omega)
    have c6 := in6 ha
    rcases lay_eq hI0 ha with ⟨n, c, w, S1, SM6, hcj, hD, hb, ecs, hf1, ecl, hlay⟩ | ⟨S1, SM6, ecs, hf1, ecl, hfM⟩
    · obtain ⟨ns, cs, pos, t1, t2, t3, t4, t5, t6⟩ := h.2.2.1
      have hX1 : frX S1 S := fun q j hq => hf1 q j (by omega)
      have hI1 := inv_fr h hX1 frM_r
      -- the class tries
      have t1' : RuC S1 ns cs := fun o ho => by
        obtain ⟨⟨a1, a2⟩, a3⟩ := t1 o ho
        exact ⟨⟨⟨a1.1, (hf1 _ _ (by omega)).trans a1.2⟩, fun j hj => (hf1 _ _ (by omega)).trans (a2 j hj)⟩, a3⟩
      have t3' : OrdC S1 29 6 pos := ⟨fun j hj => by rw [hf1 29 j (by omega)]; exact t3.1 j hj, fun i hi => by rw [hf1 29 _ (by omega)]; exact t3.2 i hi⟩
      have e28 : S1 28 = S 28 := funext fun j => hf1 28 j (by omega)
      have t5' : ∀ o, o < 6 → RF (S1 28 o) (cs o) (ns o) := by rw [e28]; exact t5
      have t6' : ∀ o, o < 6 → FixM (fun p k => S1 (3 + p) k) (S1 23) (S1 30) ns cs o := fun o ho => FixM_cong (t6 o ho) (fun p k hp => hf1 _ _ (by omega)) (fun p hp => hf1 23 p (by omega)) (hf1 30 o (by omega)) (fun i hi h64 => hf1 30 _ (by omega))
      have hD1 : DrX S1 a n c w := ⟨hD.1, ⟨⟨hD.1, by rw [hf1 _ _ (by omega)]; exact hD.2.1.1.2⟩, fun j hj => by rw [hf1 _ _ (by omega)]; exact hD.2.1.2 j hj⟩, hD.2.2⟩
      obtain ⟨S2, et, hf2, hF2⟩ := inv_try hI1 ha hD1 (by rw [e28]; exact hb) t1' t3' t4 t5' t6'
      have h2 : ∀ q j, q ≠ 31 → (q < 32 ∨ 36 < q) → S2 q j = S q j := fun q j a1 a2 => by rw [hf2 q j a1 (by omega), hf1 q j (by omega)]
      -- the rank of the new references
      obtain ⟨rank, hrk⟩ := new_rank (by omega) (posT t3 t4 t5) hD.2.2.2.2.1 (fun i hi => (t5 i hi).1) hb
      have e282 : S2 28 = S 28 := funext fun j => h2 28 j (by omega) (by omega)
      have hD2 : DrX S2 a n c w := ⟨hD.1, ⟨⟨hD.1, by rw [h2 _ _ (by omega) (by omega)]; exact hD.2.1.1.2⟩, fun j hj => by rw [h2 _ _ (by omega) (by omega)]; exact hD.2.1.2 j hj⟩, hD.2.2⟩
      obtain ⟨nd, hnd, d1, d2, d3⟩ := h.2.1 a (by omega)
      obtain ⟨S7, pos7, ead, g40, g39, g28, gO, gpos, g30, go⟩ := f_adopt (rank := rank) ha hD2 (fun j hj => by rw [h2 _ _ (by omega) (by omega)]; exact (d3 j hj).2) (fun i hi => by rw [e282]; exact (t5 i hi).1) (fun i hi => ⟨(hrk i hi).1, fun j hj hbt => (hrk i hi).2 j hj (by rw [e282] at hbt; exact hbt)⟩)
      have h7 : ∀ q j, q ≠ 28 → q ≠ 29 → q ≠ 30 → q ≠ 31 → q ≠ 39 + 4 * a → q ≠ 40 + 4 * a → (q < 32 ∨ 36 < q) → S7 q j = S q j := fun q j a1 a2 a3 a4 a5 a6 a7 => by rw [go q j a1 a2 a3 a5 a6, h2 q j a4 a7]
      obtain ⟨y1, y2, y3, y4, y5⟩ := hlay
      have hM6 : ∀ q j, (359 ≤ q ∧ q ≤ 362) ∨ (372 ≤ q ∧ q ≤ 375) ∨ 378 ≤ q ∨ (q = 358 ∧ j ≠ 8) → SM6 q j = G q j := fun q j hq => y5 q j (by omega) (by omega) (by omega) (by omega) (by omega)
      have hFin : InvL S7 L (jset SM6 358 0 0) := by
        have hMf : ∀ q j, ((q = 358 ∧ j = 30) ∨ (359 ≤ q ∧ q ≤ 362) ∨ (372 ≤ q ∧ q ≤ 375) ∨ 378 ≤ q) → jset SM6 358 0 0 q j = SM q j := fun q j hq => by rw [jset_ne (by omega), hM6 q j (by omega), hfG q j (by omega)]
        obtain ⟨h1, h2', h3, h4, h5, h6, h7', h8⟩ := h
        refine ⟨IPe_c h1 (fun q j _ _ => h7 q j (by omega) (by omega) (by omega) (by omega) (by omega) (by omega) (by omega)) (fun q j _ _ => hMf q j (by omega)), IDr_c h2' (fun o j ho => ⟨h7 _ _ (by omega) (by omega) (by omega) (by omega) (by omega) (by omega) (by omega), h7 _ _ (by omega) (by omega) (by omega) (by omega) (by omega) (by omega) (by omega)⟩) (fun q j _ _ => hMf q j (by omega)), ?_, IFl_c h4 (fun q j _ _ => h7 q j (by omega) (by omega) (by omega) (by omega) (by omega) (by omega) (by omega)) (fun q j _ _ => hMf q j (by omega)), INe_c h5 (fun q j _ _ => h7 q j (by omega) (by omega) (by omega) (by omega) (by omega) (by omega) (by omega)) (fun j => hMf 375 j (by omega)), ITr_c h6 (fun q j _ _ => h7 q j (by omega) (by omega) (by omega) (by omega) (by omega) (by omega) (by omega)) (fun q j hq => hMf q j (by omega)), IPa_c h7' (fun q j _ _ => h7 q j (by omega) (by omega) (by omega) (by omega) (by omega) (by omega) (by omega)) (fun q j _ _ => hMf q j (by omega)), ILo_c h8 (fun q j _ _ => h7 q j (by omega) (by omega) (by omega) (by omega) (by omega) (by omega) (by omega)) (hMf 358 30 (by omega))⟩
        have hnn : nd = n := n32_inj (by omega) (by have := hD.1; omega) (d1.symm.trans hD.2.1.1.2)
        have hRF : ∀ o, o < 6 → RF (S7 28 o) (putC cs a c o) (putN ns a n o) := fun o ho => by
          rw [g28]
          unfold putC putN
          by_cases hoa : o = a
          · rw [if_pos hoa, if_pos hoa, if_pos hoa]
            exact hD.2.2.2.2
          · rw [if_neg hoa, if_neg hoa, if_neg hoa, e282]
            exact t5 o ho
        have hRu : RuC S7 (putN ns a n) (putC cs a c) := fun o ho => by
          unfold putN putC
          by_cases hoa : o = a
          · rw [if_pos hoa, if_pos hoa, hoa]
            refine ⟨⟨⟨hD.1, ?_⟩, fun j hj => ?_⟩, Or.inr hD.2.2.2.1⟩
            · rw [g39, h2 _ _ (by omega) (by omega)]
              exact hD.2.1.1.2
            · rw [show 39 + 4 * a + 1 = 40 + 4 * a by omega, g40 j (by have := hD.1; omega), h2 _ _ (by omega) (by omega), show 38 + 4 * a = 37 + 4 * a + 1 by omega]
              exact hD.2.1.2 j hj
          · rw [if_neg hoa, if_neg hoa]
            obtain ⟨⟨a1, a2⟩, a3⟩ := t1 o ho
            exact ⟨⟨⟨a1.1, by rw [h7 _ _ (by omega) (by omega) (by omega) (by omega) (by omega) (by omega) (by omega)]; exact a1.2⟩, fun j hj => by rw [h7 _ _ (by omega) (by omega) (by omega) (by omega) (by omega) (by omega) (by omega)]; exact a2 j hj⟩, a3⟩
        refine ⟨putN ns a n, putC cs a c, pos7, hRu, fun o ho => ?_, gO, fun o ho => ?_, hRF, fun o ho => ?_⟩
        · rw [jset_ne (by omega), y4]
          unfold putN
          by_cases hoa : o = a
          · rw [if_pos hoa, if_pos hoa, hfG 362 a (by omega), d2, hnn, hoa]
            refine ⟨rfl, fun j hj => ?_⟩
            rw [g40 j hj, h2 _ _ (by omega) (by omega), jset_ne (by omega), y3, if_pos (by omega), hfG 361 _ (by omega)]
            exact (d3 j hj).1
          · rw [if_neg hoa, if_neg hoa, hfG 364 o (by omega)]
            refine ⟨(t2 o ho).1, fun j hj => ?_⟩
            rw [h7 _ _ (by omega) (by omega) (by omega) (by omega) (by omega) (by omega) (by omega), jset_ne (by omega), y3, if_neg (by omega), hfG 363 _ (by omega)]
            exact (t2 o ho).2 j hj
        · intro i hi h64
          have hv9 := (hRu o ho).2
          exact gpos o ho _ (ref_lt hv9 hi h64) (((hRF o ho).2 _ (ref_lt hv9 hi h64)).mpr ⟨i, hi, h64, rfl⟩)
        · refine FixM_cong (hF2 o ho) (fun p k hp => ?_) (fun p hp => ?_) (g30 o ho) (fun i hi h64 => g30 _ (ref_lt (hRu o ho).2 hi h64))
          · rw [h7 _ _ (by omega) (by omega) (by omega) (by omega) (by omega) (by omega) (by omega), hf1 _ _ (by omega)]
          · rw [h7 _ _ (by omega) (by omega) (by omega) (by omega) (by omega) (by omega) (by omega), hf1 _ _ (by omega)]
      obtain ⟨G2, eg2, hfG2, hmG2⟩ := inv_gather hFin
      have b30 : bits 20 (S 30 a) := (t6 a (by omega)).1
      have b31 : bits 20 (S2 31 a) := (hF2 a (by omega)).1
      refine AGv_ok (v := pc (S 30 a ^^^ S2 31 a)) (S1 := S7) (SM1 := G2) ?_ ?_ (by rw [hfG2 358 0 (by omega), jset_at]) (inv_fr hFin frX_r (frG_M hfG2)) (by rw [pc_cnt (bits_xor b30 b31)]; exact n32_big (Nat.le_trans cntB_le9 (by decide)))
      · unfold f_X10_set letE
        dsimp only
        rw [f_aud_y hp, jbind_s, ecs, jbind_s, et, jbin0_s, chk_t c6, chk_t c6, ca, ead, jbin0_s, h2 30 a (by omega) (by omega), f_bitCount, jbin0_s]
      · unfold f_X11_set joinK
        rw [eg, jbin0_s, m_audience, jbin0_s, rg_1 hp]
        dsimp only
        rw [if_neg (by decide), chk_t c6, jbin0_s, if_neg (by decide), ecl, jbin0_s, if_neg (by decide), m_w0, jbin0_s, if_neg (by decide), eg2, jbin0_s, chk_t c6, ca, hmG a (by omega), hmG2 a (by omega), g30 a (by omega), m_countBits, jbin0_s, ← pc_cnt (bits_xor b30 b31)]
    · refine AGv_2 (v := 0) (v2 := 0) (S1 := S1) (SM1 := jset SM6 358 0 2) ?_ ?_ jset_at (by decide) (inv_fr h (fun q j hq => hf1 q j (by omega)) (frM_t frM_thrown (frM_t hfM (frG_M hfG))))
      · unfold f_X10_set
        rw [f_aud_y hp, jbind_s, ecs]
        rfl
      · unfold f_X11_set joinK
        rw [eg, jbin0_s, m_audience, jbin0_s, rg_1 hp]
        dsimp only
        rw [if_neg (by decide), chk_t c6, jbin0_s, if_neg (by decide), ecl, jbin0_s, if_pos rfl, m_w2, jbin0_s, if_pos rfl]
  · refine AGv_1 (v := 0) (v2 := 0) (S1 := S) (SM1 := jset G 358 0 1) ?_ ?_ jset_at (by decide) (inv_thr hI0)
    · unfold f_X10_set
      rw [f_aud_n hp, jbind_t]
    · unfold f_X11_set joinK
      rw [eg, jbin0_s, m_audience, jbin0_s, rg_0 hp]
      dsimp only
      rw [if_pos rfl, jbin0_s, if_pos rfl, m_w1, jbin0_s, if_pos rfl]
end SETC
