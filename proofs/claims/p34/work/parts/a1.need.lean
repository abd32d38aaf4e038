section NED
theorem inv_ne {S SM S1 SM1 : jS} {L : jLg} (h : InvL S L SM) (hS : ∀ q j, q ≠ 63 → q ≠ 64 → S1 q j = S q j) (hM : ∀ q j, (q ≠ 375 ∧ ¬ (q = 358 ∧ j = 0)) → SM1 q j = SM q j) (hd : INe S1 SM1) : InvL S1 L SM1 := by
  obtain ⟨h1, h2, h3, h4, h5, h6, h7, h8⟩ := h
  exact ⟨IPe_c h1 (fun q j _ _ => hS q j (by omega) (by omega)) (fun q j _ _ => hM q j (by omega)), IDr_c h2 (fun a j ha => ⟨hS _ _ (by omega) (by omega), hS _ _ (by omega) (by omega)⟩) (fun q j _ _ => hM q j (by omega)),
    ITx_c h3 (fun q j _ _ => hS q j (by omega) (by omega)) (fun a j ha => ⟨hS _ _ (by omega) (by omega), hS _ _ (by omega) (by omega)⟩) (fun q j _ _ => hM q j (by omega)), IFl_c h4 (fun q j _ _ => hS q j (by omega) (by omega)) (fun q j _ _ => hM q j (by omega)),
    hd, ITr_c h6 (fun q j _ _ => hS q j (by omega) (by omega)) (fun q j hq => hM q j (by omega)), IPa_c h7 (fun q j _ _ => hS q j (by omega) (by omega)) (fun q j _ _ => hM q j (by omega)),
    ILo_c h8 (fun q j _ _ => hS q j (by omega) (by omega)) (hM 358 30 (by omega))⟩
theorem wb_nz {x b v : Int32} (h : v ≠ 0) : wb x b v = wb x b 1 := by
  unfold wb
  rw [if_neg h, if_neg (by decide)]
theorem cclo_c {T T1 : Nat → Int32} {n : Nat} (h : ∀ i, i < n → T i = T1 i) : ∀ r w, cclo T n w r = cclo T1 n w r := by
  have hp : ∀ m, m ≤ n → ∀ w, cpass T w m = cpass T1 w m := by
    intro m
    induction m with
    | zero => exact fun _ _ => rfl
    | succ m ih =>
      intro hm w
      show cpass T w m ||| (if bt (cpass T w m) m = true then T m else 0) = cpass T1 w m ||| (if bt (cpass T1 w m) m = true then T1 m else 0)
      rw [ih (by omega), h m (by omega)]
  intro r
  induction r with
  | zero => exact fun _ => rfl
  | succ r ih =>
    intro w
    show cpass T (cclo T n w r) n = cpass T1 (cclo T1 n w r) n
    rw [ih, hp n (Nat.le_refl _)]
/-- 12: setNeed -/
theorem ag_12 {S SM : jS} {L : jLg} (h : InvL S L SM) : ∀ p1 p2 p3, AGv (f_X10_setNeed S p1 p2 p3) 1 2 0 (f_X11_setNeed SM p1 p2 p3) (fun S1 SM1 => InvL S1 L SM1) := fun p1 p2 p3 => by
  by_cases hall : (0 ≤ p1 ∧ p1 ≤ 7) ∧ (0 ≤ p2 ∧ p2 ≤ 7) ∧ p1 ≠ p2
  · obtain ⟨hp, hq, hne⟩ := hall
    obtain ⟨f, hf, rfl⟩ := n32_rg (n := 7) (by omega) hp
    obtain ⟨o, ho, rfl⟩ := n32_rg (n := 7) (by omega) hq
    have hfo : f ≠ o := fun e => hne (by rw [e])
    obtain ⟨hT, pos, hO, hpos⟩ := h.2.2.2.2.1
    have hpos8 : ∀ i, i < 8 → pos i < 8 ∧ ∀ j, j < 8 → bt (S 63 i) j = true → pos j < pos i := fun i hi => ⟨(hO.2 i hi).1, fun j hj => hpos i hi j hj⟩
    have hT8 : ∀ i, i < 8 → bits 8 (S 63 i) := fun i hi => (hT i hi).2
    have ecl : cclo (SM 375) 8 (SM 375 o) 8 = cclo (S 63) 8 (S 63 o) 8 := by
      rw [← (hT o (by omega)).1]
      exact (cclo_c (fun i hi => (hT i hi).1) 8 _).symm
    have hwb8 : bits 8 (wb (S 63 f) (Int32.ofNat o) p3) := bits_wb (hT8 f (by omega)) (by omega) (by omega)
    -- the model, where there is no circle
    have em : (p3 = 0 ∨ bt (cclo (S 63) 8 (S 63 o) 8) f = false) → f_X11_setNeed SM (Int32.ofNat f) (Int32.ofNat o) p3 = some (0, hb (S 63 f) (Int32.ofNat o), jset (jset SM 358 0 0) 375 f (wb (S 63 f) (Int32.ofNat o) p3)) := fun hnc => by
      unfold f_X11_setNeed joinK letE
      rw [m_flag, jbin0_s, rg_1 hp]
      dsimp only
      rw [if_neg (by decide), m_flag, jbin0_s, rg_1 hq, if_neg (by decide), if_neg hne, if_neg (by decide)]
      have tail : (jbin0 (f_X11_goesWell SM 0) fun v18 S19 => if v18 = 0 then chk (isb 0) (some ((0 : Nat), (0 : Int32), S19)) else chk (inb (Int32.ofNat f) 8) (if (S19 375 (Int32.ofNat f).toNatClampNeg >>> (Int32.ofNat o &&& 31)) &&& 1 = 1 then (if p3 = 0 then chk (inb (Int32.ofNat f) 8) (chk (inb (Int32.ofNat f) 8) (chk (isb 1) (some (0, 1, jset S19 375 (Int32.ofNat f).toNatClampNeg (S19 375 (Int32.ofNat f).toNatClampNeg &&& ((1 <<< (Int32.ofNat o &&& 31)) ^^^ -1)))))) else chk (inb (Int32.ofNat f) 8) (chk (inb (Int32.ofNat f) 8) (chk (isb 1) (some (0, 1, jset S19 375 (Int32.ofNat f).toNatClampNeg (S19 375 (Int32.ofNat f).toNatClampNeg ||| (1 <<< (Int32.ofNat o &&& 31)))))))) else (if p3 = 0 then chk (inb (Int32.ofNat f) 8) (chk (inb (Int32.ofNat f) 8) (chk (isb 0) (some (0, 0, jset S19 375 (Int32.ofNat f).toNatClampNeg (S19 375 (Int32.ofNat f).toNatClampNeg &&& ((1 <<< (Int32.ofNat o &&& 31)) ^^^ -1)))))) else chk (inb (Int32.ofNat f) 8) (chk (inb (Int32.ofNat f) 8) (chk (isb 0) (some (0, 0, jset S19 375 (Int32.ofNat f).toNatClampNeg (S19 375 (Int32.ofNat f).toNatClampNeg ||| (1 <<< (Int32.ofNat o &&& 31)))))))))) = some (0, hb (S 63 f) (Int32.ofNat o), jset (jset SM 358 0 0) 375 f (wb (S 63 f) (Int32.ofNat o) p3)) := by
        rw [m_w0, jbin0_s, if_neg (by decide), chk_t (in8 hf), n32_c (show f ≤ 1000 by omega), jset_ne (by omega), ← (hT f (by omega)).1, hb_bt (by omega)]
        simp only [m_bit (show o < 32 by omega), chk_t (in8 hf), chk_t (show isb 1 = true by decide), chk_t (show isb 0 = true by decide)]
        unfold wb
        by_cases hbo : bt (S 63 f) o = true
        · rw [if_pos hbo, if_pos hbo]
          by_cases hz : p3 = 0
          · rw [if_pos hz, if_pos hz]
          · rw [if_neg hz, if_neg hz]
        · rw [if_neg hbo, if_neg hbo]
          by_cases hz : p3 = 0
          · rw [if_pos hz, if_pos hz]
          · rw [if_neg hz, if_neg hz]
      by_cases hz : p3 = 0
      · rw [if_pos hz, if_neg (by decide), if_pos rfl]
        exact tail
      · rw [if_neg hz, m_allNeeds (by omega), jbin0_s, ecl]
        simp only [m_bit (show f < 32 by omega)]
        rw [if_neg (by rw [hnc.resolve_left hz]; decide), if_neg (by decide), if_pos trivial]
        exact tail
    by_cases hnc : p3 = 0 ∨ bt (cclo (S 63) 8 (S 63 o) 8) f = false
    · -- the rank of the new needs
      have hrank : ∃ rank : Nat → Nat, ∀ i, i < 8 → rank i < 8 ∧ ∀ j, j < 8 → bt (if i = f then wb (S 63 f) (Int32.ofNat o) p3 else S 63 i) j = true → rank j < rank i := by
        by_cases hz : p3 = 0
        · refine ⟨pos, fun i hi => ⟨(hpos8 i hi).1, fun j hj hb => ?_⟩⟩
          by_cases hif : i = f
          · rw [if_pos hif, wb_bt (by omega) (by omega)] at hb
            by_cases hjo : j = o
            · rw [if_pos hjo, hz] at hb
              exact absurd hb (by decide)
            · rw [if_neg hjo] at hb
              rw [hif]
              exact (hpos8 f (by omega)).2 j hj hb
          · rw [if_neg hif] at hb
            exact (hpos8 i hi).2 j hj hb
        · refine new_rank (by omega) hpos8 hwb8 hT8 ?_
          rw [wb_nz hz, need_iff (by omega) (by omega) hfo hpos8 hT8]
          exact hnc.resolve_left hz
      obtain ⟨rank, hrk⟩ := hrank
      have e63 : ∀ i, jset S 63 f (wb (S 63 f) (Int32.ofNat o) p3) 63 i = if i = f then wb (S 63 f) (Int32.ofNat o) p3 else S 63 i := fun i => by
        rw [jset_if]
        by_cases hif : i = f
        · rw [if_pos ⟨rfl, hif⟩, if_pos hif]
        · rw [if_neg (fun h => hif h.2), if_neg hif]
      obtain ⟨S2, pos2, v2, ea, hfr, hO2, hpos2⟩ := f_arrange (S := jset S 63 f (wb (S 63 f) (Int32.ofNat o) p3)) (b0 := 62) (n := 8) (rank := rank) (Or.inr rfl) (fun i hi => by
        show bits 8 (jset S 63 f (wb (S 63 f) (Int32.ofNat o) p3) 63 i)
        rw [e63]
        by_cases hif : i = f
        · rw [if_pos hif]
          exact hwb8
        · rw [if_neg hif]
          exact hT8 i hi) (fun i hi => ⟨(hrk i hi).1, fun j hj hb => (hrk i hi).2 j hj (by rw [← e63]; exact hb)⟩)
      refine AGv_ok (v := hb (S 63 f) (Int32.ofNat o)) (S1 := S2) (SM1 := jset (jset SM 358 0 0) 375 f (wb (S 63 f) (Int32.ofNat o) p3)) ?_ (em hnc) (by rw [jset_ne (by omega), jset_at]) ?_ hb_big
      · have epo : f_X4_point S 62 8 (Int32.ofNat f) (wb (S 63 f) (Int32.ofNat o) p3) = some (0, 0, S2) := by
          unfold f_X4_point letE
          dsimp only
          rw [chk_t (in8 hf), n32_c (by omega), ea, jbin0_s]
        unfold f_X10_setNeed letE joinK
        dsimp only
        rw [f_flg_y hp, jbind_s, f_flg_y hq, jbind_s, if_neg hne, chk_t (in8 hf), n32_c (show f ≤ 1000 by omega), f_withBit, jbin0_s]
        by_cases hz : p3 = 0
        · rw [if_pos hz, epo, jbin0_s, f_hasBit, jbin0_s, chk_t hb_isb]
        · have ew : f_X4_wouldLoop S 62 8 (Int32.ofNat f) (wb (S 63 f) (Int32.ofNat o) p3) = some (0, 0, ()) := by
            rw [f_wouldLoop (by omega), hb_bt (by omega), wb_nz hz, need_iff (by omega) (by omega) hfo hpos8 hT8, hnc.resolve_left hz]
            rfl
          rw [if_neg hz, ew, jbin0_s, if_pos rfl, epo, jbin0_s, f_hasBit, jbin0_s, chk_t hb_isb]
      · have e63b : ∀ i, S2 63 i = if i = f then wb (S 63 f) (Int32.ofNat o) p3 else S 63 i := fun i => by
          rw [hfr 63 i (by omega)]
          exact e63 i
        refine inv_ne h (fun q j h1 h2 => by rw [hfr q j (by omega), jset_ne (by omega)]) (fun q j hq => by rw [jset_ne (by omega), jset_ne (by omega)]) ⟨fun i hi => ?_, pos2, hO2, fun i hi j hj hb => ?_⟩
        · rw [e63b, jset_if]
          by_cases hif : i = f
          · rw [if_pos hif, if_pos ⟨rfl, hif⟩]
            exact ⟨rfl, hwb8⟩
          · rw [if_neg hif, if_neg (fun h => hif h.2), jset_ne (by omega)]
            exact hT i hi
        · rw [e63b, ← e63] at hb
          exact hpos2 i hi j hj hb
    · have hz : p3 ≠ 0 := fun e => hnc (Or.inl e)
      have hb1 : bt (cclo (S 63) 8 (S 63 o) 8) f = true := by
        cases e : bt (cclo (S 63) 8 (S 63 o) 8) f
        · exact absurd (Or.inr e) hnc
        · rfl
      refine AGv_2 (v := 0) (v2 := 0) (S1 := S) (SM1 := jset SM 358 0 2) ?_ ?_ jset_at (by decide) (inv_thr h)
      · have ew : f_X4_wouldLoop S 62 8 (Int32.ofNat f) (wb (S 63 f) (Int32.ofNat o) p3) = some (0, 1, ()) := by
          rw [f_wouldLoop (by omega), hb_bt (by omega), wb_nz hz, need_iff (by omega) (by omega) hfo hpos8 hT8, hb1]
          rfl
        unfold f_X10_setNeed letE joinK
        dsimp only
        rw [f_flg_y hp, jbind_s, f_flg_y hq, jbind_s, if_neg hne, chk_t (in8 hf), n32_c (show f ≤ 1000 by omega), f_withBit, jbin0_s, if_neg hz, ew, jbin0_s, if_neg (by decide)]
      · unfold f_X11_setNeed joinK letE
        rw [m_flag, jbin0_s, rg_1 hp]
        dsimp only
        rw [if_neg (by decide), m_flag, jbin0_s, rg_1 hq, if_neg (by decide), if_neg hne, if_neg (by decide), if_neg hz, m_allNeeds (by omega), jbin0_s, ecl]
        simp only [m_bit (show f < 32 by omega)]
        rw [if_pos hb1, if_neg (by decide), if_neg (by decide), m_w2, jbin0_s, if_pos rfl]
        rfl
  · refine AGv_1 (v := 0) (v2 := 0) (S1 := S) (SM1 := jset SM 358 0 1) ?_ ?_ jset_at (by decide) (inv_thr h)
    · unfold f_X10_setNeed
      by_cases hp : 0 ≤ p1 ∧ p1 ≤ 7
      · rw [f_flg_y hp, jbind_s]
        by_cases hq : 0 ≤ p2 ∧ p2 ≤ 7
        · rw [f_flg_y hq, jbind_s, if_pos]
          by_cases e : p1 = p2
          · exact e
          · exact absurd ⟨hp, hq, e⟩ hall
        · rw [f_flg_n hq, jbind_t]
      · rw [f_flg_n hp, jbind_t]
    · unfold f_X11_setNeed joinK letE
      rw [m_flag, jbin0_s]
      dsimp only
      by_cases hp : 0 ≤ p1 ∧ p1 ≤ 7
      · rw [rg_1 hp, if_neg (by decide), m_flag, jbin0_s]
        by_cases hq : 0 ≤ p2 ∧ p2 ≤ 7
        · rw [rg_1 hq, if_neg (by decide), if_pos (show p1 = p2 by
            by_cases e : p1 = p2
            · exact e
            · exact absurd ⟨hp, hq, e⟩ hall), if_pos rfl, if_pos rfl, m_w1, jbin0_s, if_pos rfl]
          rfl
        · rw [rg_0 hq, if_pos rfl, if_pos rfl, if_pos rfl, m_w1, jbin0_s, if_pos rfl]
          rfl
      · rw [rg_0 hp, if_pos rfl, if_pos rfl, if_pos rfl, m_w1, jbin0_s, if_pos rfl]
        rfl
end NED
