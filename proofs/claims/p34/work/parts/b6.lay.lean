section LAYD
theorem m_layDraft {S : jS} {a : Nat} (ha : a ≤ 5) : ∃ S4, f_X11_layDraft S (Int32.ofNat a) = some (0, 0, S4) ∧ S4 358 8 = S 364 a ∧ (∀ k, k < 60 → S4 365 k = S 363 (60 * a + k)) ∧ (∀ j, S4 363 j = if 60 * a ≤ j ∧ j < 60 * a + 60 then S 361 j else S 363 j) ∧ (∀ j, S4 364 j = if j = a then S 362 a else S 364 j) ∧ ∀ q j, ¬ (q = 358 ∧ j = 8) → q ≠ 363 → q ≠ 364 → q ≠ 365 → S4 q j = S q j := by
  suffices hw : wq (f_X11_layDraft S (Int32.ofNat a)) (fun t v S4 => t = 0 ∧ v = 0 ∧ S4 358 8 = S 364 a ∧ (∀ k, k < 60 → S4 365 k = S 363 (60 * a + k)) ∧ (∀ j, S4 363 j = if 60 * a ≤ j ∧ j < 60 * a + 60 then S 361 j else S 363 j) ∧ (∀ j, S4 364 j = if j = a then S 362 a else S 364 j) ∧ ∀ q j, ¬ (q = 358 ∧ j = 8) → q ≠ 363 → q ≠ 364 → q ≠ 365 → S4 q j = S q j) by
    obtain ⟨t, v, S1, e, rfl, rfl, h⟩ := wq_ex hw
    exact ⟨S1, e, h⟩
  have ca : (Int32.ofNat a).toNatClampNeg = a := n32_c (by omega)
  unfold f_X11_layDraft
  refine wq_chk (in6 ha) (wq_let ?_)
  rw [ca]
  refine wq_for (fun (K : jS → Int32 → Option (jR jS)) i (b : jS) => K b i) 60 (fun i S3 => S3 358 8 = S 364 a ∧ (∀ k, k < i → S3 365 k = S 363 (60 * a + k)) ∧ (∀ j, S3 363 j = if 60 * a ≤ j ∧ j < 60 * a + i then S 361 j else S 363 j) ∧ ∀ q j, ¬ (q = 358 ∧ j = 8) → q ≠ 363 → q ≠ 365 → S3 q j = S q j) (fun rec i S3 hi hP ih => ?_) (fun rec S3 hP => ?_) 60 0 1000 (jset S 358 8 (S 364 a)) (by omega) (by omega) ⟨jset_at, fun k h => absurd h (Nat.not_lt_zero _), fun j => by rw [if_neg (by omega), jset_ne (by omega)], fun q j h1 h2 h3 => jset_ne h1⟩
  · obtain ⟨h1, h2, h3, h4⟩ := hP
    have e : ((60 : Int32) ≤ Int32.ofNat i) = (60 ≤ i) := n32_le (n := 60) (by omega) (by omega)
    refine wq_ite (fun h => absurd (Eq.mp e h) (by omega)) (fun _ => ?_)
    rw [n32_60, n32_succ, n32_c (show 60 * a + i ≤ 1000 by omega), n32_c (show i ≤ 1000 by omega)]
    refine wq_chk (n32_inb (by omega) (by omega)) (wq_chk (n32_inb (by omega) (by omega)) (wq_let (wq_chk (n32_inb (by omega) (by omega)) (wq_chk (n32_inb (by omega) (by omega)) (wq_let (wq_let (ih _ ⟨?_, fun k hk => ?_, fun j => ?_, fun q j a1 a2 a3 => ?_⟩)))))))
    · rw [jset_ne (by omega), jset_ne (by omega)]
      exact h1
    · rw [jset_ne (by omega), jset_if]
      by_cases hki : k = i
      · rw [if_pos ⟨rfl, hki⟩, h3, if_neg (by omega), hki]
      · rw [if_neg (fun h => hki h.2)]
        exact h2 k (by omega)
    · rw [jset_if]
      by_cases hj : j = 60 * a + i
      · rw [if_pos ⟨rfl, hj⟩, if_pos (by omega), jset_ne (by omega), h4 361 _ (by omega) (by omega) (by omega), hj]
      · rw [if_neg (fun h => hj h.2), jset_ne (by omega), h3]
        by_cases h9 : 60 * a ≤ j ∧ j < 60 * a + i
        · rw [if_pos h9, if_pos (by omega)]
        · rw [if_neg h9, if_neg (by omega)]
    · rw [jset_ne (by omega), jset_ne (by omega)]
      exact h4 q j a1 a2 a3
  · obtain ⟨h1, h2, h3, h4⟩ := hP
    refine wq_ite (fun _ => wq_chk (in6 ha) (wq_chk (in6 ha) (wq_let ?_))) (fun h => absurd (by decide) h)
    refine ⟨rfl, rfl, by rw [jset_ne (by omega)]; exact h1, fun k hk => by rw [jset_ne (by omega)]; exact h2 k hk, fun j => by rw [jset_ne (by omega)]; exact h3 j, fun j => ?_, fun q j a1 a2 a3 a4 => by rw [jset_ne (by omega)]; exact h4 q j a1 a2 a4⟩
    rw [jset_if]
    by_cases hj : j = a
    · rw [if_pos ⟨rfl, hj⟩, if_pos hj, h4 362 a (by omega) (by omega) (by omega)]
    · rw [if_neg (fun h => hj h.2), if_neg hj, h4 364 j (by omega) (by omega) (by omega)]
theorem m_layBack {S : jS} {a : Nat} (ha : a ≤ 5) : ∃ S4, f_X11_layBack S (Int32.ofNat a) = some (0, 0, S4) ∧ (∀ j, S4 363 j = if 60 * a ≤ j ∧ j < 60 * a + 60 then S 365 (j - 60 * a) else S 363 j) ∧ (∀ j, S4 364 j = if j = a then S 358 8 else S 364 j) ∧ ∀ q j, q ≠ 363 → q ≠ 364 → S4 q j = S q j := by
  suffices hw : wq (f_X11_layBack S (Int32.ofNat a)) (fun t v S4 => t = 0 ∧ v = 0 ∧ (∀ j, S4 363 j = if 60 * a ≤ j ∧ j < 60 * a + 60 then S 365 (j - 60 * a) else S 363 j) ∧ (∀ j, S4 364 j = if j = a then S 358 8 else S 364 j) ∧ ∀ q j, q ≠ 363 → q ≠ 364 → S4 q j = S q j) by
    obtain ⟨t, v, S1, e, rfl, rfl, h⟩ := wq_ex hw
    exact ⟨S1, e, h⟩
  have ca : (Int32.ofNat a).toNatClampNeg = a := n32_c (by omega)
  unfold f_X11_layBack
  refine wq_for (fun (K : jS → Int32 → Option (jR jS)) i (b : jS) => K b i) 60 (fun i S3 => (∀ j, S3 363 j = if 60 * a ≤ j ∧ j < 60 * a + i then S 365 (j - 60 * a) else S 363 j) ∧ ∀ q j, q ≠ 363 → S3 q j = S q j) (fun rec i S3 hi hP ih => ?_) (fun rec S3 hP => ?_) 60 0 1000 S (by omega) (by omega) ⟨fun j => by rw [if_neg (by omega)], fun _ _ _ => rfl⟩
  · obtain ⟨h3, h4⟩ := hP
    have e : ((60 : Int32) ≤ Int32.ofNat i) = (60 ≤ i) := n32_le (n := 60) (by omega) (by omega)
    refine wq_ite (fun h => absurd (Eq.mp e h) (by omega)) (fun _ => ?_)
    rw [n32_60, n32_succ, n32_c (show 60 * a + i ≤ 1000 by omega), n32_c (show i ≤ 1000 by omega)]
    refine wq_chk (n32_inb (by omega) (by omega)) (wq_chk (n32_inb (by omega) (by omega)) (wq_let (wq_let (ih _ ⟨fun j => ?_, fun q j a2 => ?_⟩))))
    · rw [jset_if]
      by_cases hj : j = 60 * a + i
      · rw [if_pos ⟨rfl, hj⟩, if_pos (by omega), h4 365 _ (by omega), hj, Nat.add_sub_cancel_left]
      · rw [if_neg (fun h => hj h.2), h3]
        by_cases h9 : 60 * a ≤ j ∧ j < 60 * a + i
        · rw [if_pos h9, if_pos (by omega)]
        · rw [if_neg h9, if_neg (by omega)]
    · rw [jset_ne (by omega)]
      exact h4 q j a2
  · obtain ⟨h3, h4⟩ := hP
    refine wq_ite (fun _ => wq_chk (in6 ha) (wq_let ?_)) (fun h => absurd (by decide) h)
    rw [ca]
    refine ⟨rfl, rfl, fun j => by rw [jset_ne (by omega)]; exact h3 j, fun j => ?_, fun q j a2 a3 => by rw [jset_ne (by omega)]; exact h4 q j a2⟩
    rw [jset_if]
    by_cases hj : j = a
    · rw [if_pos ⟨rfl, hj⟩, if_pos hj, h4 358 8 (by omega)]
    · rw [if_neg (fun h => hj h.2), if_neg hj, h4 364 j (by omega)]
/-- a draft laid as the rule, the one before put aside -/
def Laid (a : Nat) (S6 S : jS) : Prop := S6 358 8 = S 364 a ∧ (∀ k, k < 60 → S6 365 k = S 363 (60 * a + k)) ∧ (∀ j, S6 363 j = if 60 * a ≤ j ∧ j < 60 * a + 60 then S 361 j else S 363 j) ∧ (∀ j, S6 364 j = if j = a then S 362 a else S 364 j) ∧ ∀ q j, ¬ (q = 358 ∧ j = 8) → q ≠ 363 → q ≠ 364 → q ≠ 365 → q ≠ 366 → S6 q j = S q j
/-- what the drafts and rules are, for the class and for the model -/
def DrX (S : jS) (a n : Nat) (c : Nat → Int32) (w : Int32) : Prop := n ≤ 60 ∧ TxS S (37 + 4 * a) n c ∧ flt c n n = -1 ∧ Valid c n ∧ RF w c n
theorem posT {S : jS} {ns pos : Nat → Nat} {cs : Nat → Nat → Int32} (hO : OrdC S 29 6 pos) (hP : ∀ a, a < 6 → PosR pos ns cs a) (hR : ∀ a, a < 6 → RF (S 28 a) (cs a) (ns a)) : ∀ i, i < 6 → pos i < 6 ∧ ∀ j, j < 6 → bt (S 28 i) j = true → pos j < pos i := fun i hi => ⟨(hO.2 i hi).1, fun j hj hb => by
  obtain ⟨k, hk, h1, h2⟩ := ((hR i hi).2 j hj).mp hb
  have := hP i hi k hk h1
  rw [h2] at this
  exact this⟩
/-- canLay and canBeSet agree -/
theorem lay_eq {S SM : jS} {L : jLg} (h : InvL S L SM) {a : Nat} (ha : a ≤ 5) :
    (∃ (n : Nat) (c : Nat → Int32) (w : Int32) (S1 SM6 : jS), (∀ j, c j = S (38 + 4 * a) j) ∧ DrX S a n c w ∧ bt (cclo (S 28) 6 w 6) a = false ∧ f_X10_checkSettable S (Int32.ofNat a) = some (0, 0, S1) ∧ (∀ q j, q ≠ 32 → S1 q j = S q j) ∧ f_X11_canLay SM (Int32.ofNat a) = some (0, 1, SM6) ∧ Laid a SM6 SM) ∨
    (∃ S1 SM6 : jS, f_X10_checkSettable S (Int32.ofNat a) = some (2, 0, S1) ∧ (∀ q j, q ≠ 32 → S1 q j = S q j) ∧ f_X11_canLay SM (Int32.ofNat a) = some (0, 0, SM6) ∧ frM SM6 SM) := by
  obtain ⟨n, hn, e1, e2, e3⟩ := h.2.1 a (by omega)
  obtain ⟨ns, cs, pos, t1, t2, t3, t4, t5, t6⟩ := h.2.2.1
  have hT : TxS S (37 + 4 * a) n (S (38 + 4 * a)) := ⟨⟨hn, e1⟩, fun j _ => by rw [show 37 + 4 * a + 1 = 38 + 4 * a by omega]⟩
  obtain ⟨S1, ef, hf⟩ := f_findFault (S := S) (c := S (38 + 4 * a)) (by omega) (by omega) hT.1 hT.2
  have emf : f_X11_faultOf SM (Int32.ofNat a) = some (0, flt (S (38 + 4 * a)) n n, ()) := m_faultOf (by omega) hn e2 (fun j hj => (e3 j (by omega)).1.symm)
  have ca : (Int32.ofNat a).toNatClampNeg = a := n32_c (by omega)
  have ha5 : (0 : Int32) ≤ Int32.ofNat a ∧ Int32.ofNat a ≤ 5 := rg_le (n := 5) ha (by omega)
  by_cases hF : flt (S (38 + 4 * a)) n n = -1
  · have hV : Valid (S (38 + 4 * a)) n := flt_valid hn n (Nat.le_refl _) (fun j hj => by
      have : j = 0 := by omega
      subst this
      exact rd_00) hF
    have hT1 : TxS S1 (37 + 4 * a) n (S (38 + 4 * a)) := ⟨⟨hn, by rw [hf _ _ (by omega)]; exact e1⟩, fun j hj => by rw [hf _ _ (by omega)]; exact hT.2 j hj⟩
    obtain ⟨w, ew, hw⟩ := f_refs hT1 hV
    have e28 : S1 (27 + 1) = S 28 := funext fun j => hf 28 j (by omega)
    have ecb : f_X10_checkSettable S (Int32.ofNat a) = if bt (cclo (S 28) 6 w 6) a = true then some (2, 0, S1) else some (0, 0, S1) := by
      unfold f_X10_checkSettable f_X0_canBeSet f_X0_faultOf joinK
      rw [chk_t (in6 ha), ca, ef, jbin0_s, jbin0_s, hF]
      dsimp only
      rw [if_pos rfl, chk_t (in6 ha), ew, jbin0_s, f_wouldLoop (by omega), jbin0_s, e28, hb_bt (by omega)]
      by_cases hb : bt (cclo (S 28) 6 w 6) a = true
      · rw [if_pos hb, if_neg (by decide), if_pos hb]
        rfl
      · rw [if_neg hb, if_pos rfl, if_neg hb]
        rfl
    obtain ⟨S4, el, l1, l2, l3, l4, l5⟩ := m_layDraft (S := SM) ha
    have hpT := posT t3 t4 t5
    have hTx : ∀ o, o < 6 → TxM S4 o (putN ns a n o) (putC cs a (S (38 + 4 * a)) o) := fun o ho => by
      unfold putN putC
      by_cases hoa : o = a
      · rw [if_pos hoa, if_pos hoa]
        refine ⟨ho, hn, by rw [l4, if_pos hoa]; exact e2, fun j hj => ?_⟩
        rw [l3, if_pos (by omega), hoa]
        exact (e3 j (by omega)).1.symm
      · rw [if_neg hoa, if_neg hoa]
        have hno := (t1 o ho).1.1.1
        refine ⟨ho, hno, by rw [l4, if_neg hoa]; exact (t2 o ho).1, fun j hj => ?_⟩
        rw [l3, if_neg (by omega), ← (t2 o ho).2 j (by omega)]
        have := (t1 o ho).1.2 j hj
        rw [show 39 + 4 * o + 1 = 40 + 4 * o by omega] at this
        exact this
    obtain ⟨v, S6, W, T, eh, hf6, hTR, hsup, htr, hrk, hv, hvi⟩ := m_hasCircle (S := S4) (ns := putN ns a n) (cs := putC cs a (S (38 + 4 * a))) hTx (fun o ho => by
      unfold putN putC
      by_cases hoa : o = a
      · rw [if_pos hoa, if_pos hoa]
        exact Or.inr hV
      · rw [if_neg hoa, if_neg hoa]
        exact (t1 o ho).2)
    have hTe : ∀ o, o < 6 → T o = if o = a then w else S 28 o := fun o ho => by
      have h1 := hTR o ho
      unfold putN putC at h1
      by_cases hoa : o = a
      · rw [if_pos hoa] at h1 ⊢
        rw [if_pos hoa] at h1
        exact RF_ext h1 hw
      · rw [if_neg hoa] at h1 ⊢
        rw [if_neg hoa] at h1
        exact RF_ext h1 (t5 o ho)
    have hci := circ_iff (T := S 28) (W := W) (pos := pos) (f := a) (w := w) (by omega) hpT hw.1 (fun i hi => (t5 i hi).1) (fun o ho j hb => hsup o ho j (by rw [hTe o ho]; exact hb)) htr (fun rank hr => hrk rank (fun o ho j hj hb => hr o ho j hj (by rw [← hTe o ho]; exact hb)))
    by_cases hb : bt (cclo (S 28) 6 w 6) a = true
    · right
      have hv1 : v = 1 := hvi.mpr (hci.mpr hb)
      obtain ⟨S7, eb, b1, b2, b3⟩ := m_layBack (S := S6) ha
      refine ⟨S1, S7, by rw [ecb, if_pos hb], hf, ?_, fun q j hq => ?_⟩
      · unfold f_X11_canLay joinK
        rw [m_audience, jbin0_s, rg_1 ha5]
        dsimp only
        rw [if_neg (by decide), emf, jbin0_s, hF, if_pos rfl, el, jbin0_s, eh, jbin0_s, hv1, if_neg (by decide), if_pos rfl, eb, jbin0_s]
        rfl
      · by_cases h3 : q = 363
        · rw [h3, b1]
          by_cases hj : 60 * a ≤ j ∧ j < 60 * a + 60
          · rw [if_pos hj, hf6 365 _ (by omega), l2 _ (by omega)]
            congr 1
            omega
          · rw [if_neg hj, hf6 363 j (by omega), l3, if_neg hj]
        · by_cases h4 : q = 364
          · rw [h4, b2]
            by_cases hj : j = a
            · rw [if_pos hj, hf6 358 8 (by omega), l1, hj]
            · rw [if_neg hj, hf6 364 j (by omega), l4, if_neg hj]
          · rw [b3 q j h3 h4, hf6 q j (by omega), l5 q j (by omega) h3 h4 (by omega)]
    · left
      have hv0 : v = 0 := hv.resolve_right fun h9 => hb (hci.mp (hvi.mp h9))
      refine ⟨n, S (38 + 4 * a), w, S1, S6, fun _ => rfl, ⟨hn, hT, hF, hV, hw⟩, by simpa using hb, by rw [ecb, if_neg hb], hf, ?_, by rw [hf6 358 8 (by omega)]; exact l1, fun k hk => by rw [hf6 365 k (by omega)]; exact l2 k hk, fun j => by rw [hf6 363 j (by omega)]; exact l3 j, fun j => by rw [hf6 364 j (by omega)]; exact l4 j, fun q j a1 a2 a3 a4 a5 => by rw [hf6 q j a5]; exact l5 q j a1 a2 a3 a4⟩
      unfold f_X11_canLay joinK
      rw [m_audience, jbin0_s, rg_1 ha5]
      dsimp only
      rw [if_neg (by decide), emf, jbin0_s, hF, if_pos rfl, el, jbin0_s, eh, jbin0_s, hv0, if_pos rfl, if_neg (by decide)]
      rfl
  · right
    refine ⟨S1, SM, ?_, hf, ?_, frM_r⟩
    · unfold f_X10_checkSettable f_X0_canBeSet f_X0_faultOf joinK
      rw [chk_t (in6 ha), ca, ef, jbin0_s, jbin0_s]
      dsimp only
      rw [if_neg hF]
      rfl
    · unfold f_X11_canLay joinK
      rw [m_audience, jbin0_s, rg_1 ha5]
      dsimp only
      rw [if_neg (by decide), emf, jbin0_s, if_neg hF]
      rfl
end LAYD
