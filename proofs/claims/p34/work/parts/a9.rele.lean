section RLS
/-- 25: release -/
theorem ag_25 {S SM : jS} {L : jLg} (h : InvL S L SM) : ∀ p1 p2, AGv (f_X10_release S L p1 p2) 1 2 0 (f_X11_release SM p1 p2) (fun S1 SM1 => InvL S1.1 S1.2 SM1) := fun p1 p2 => by
  by_cases hall : (0 ≤ p1 ∧ p1 ≤ 19) ∧ (0 ≤ p2 ∧ p2 ≤ 7)
  · obtain ⟨hp, hq⟩ := hall
    obtain ⟨p, hp9, rfl⟩ := n32_rg (n := 19) (by omega) hp
    obtain ⟨f, hf, rfl⟩ := n32_rg (n := 7) (by omega) hq
    obtain ⟨g1, g2, g3, g4, g5⟩ := (h.2.2.2.2.2.2.1 p (by omega)).2.2 f (by omega)
    obtain ⟨hlog, hlogM⟩ := f_log h (S2 := S)
    obtain ⟨hb1, _, hb3⟩ := hold_bits g4
    have hb1' : SM 384 (8 * p + f) < (64 : Int32) ↔ bt (SM 384 (8 * p + f)) 6 = false := by
      rw [← Int32.not_le, hb1]
      simp
    have eM : f_X11_release SM (Int32.ofNat p) (Int32.ofNat f) = if bt (SM 384 (8 * p + f)) 6 = true ∧ L.length < 400 then jbin0 (f_X11_findViews (jset (jset (jset SM 358 0 0) 384 (8 * p + f) (SM 384 (8 * p + f) - 64)) 358 30 (SM 358 30 + 1))) (fun _ S19 => some ((0 : Nat), S19 376 (8 * p + f), S19)) else some (0, 0, jset SM 358 0 2) := by
      unfold f_X11_release joinK letE
      rw [m_person, jbin0_s, rg_1 hp]
      dsimp only
      rw [if_neg (by decide), m_flag, jbin0_s, rg_1 hq, if_neg (by decide), if_neg (by decide), if_neg (by decide), n32_8, n32_c (show 8 * p + f ≤ 1000 by omega), chk_t (n32_inb (by omega) (by omega))]
      by_cases hc : bt (SM 384 (8 * p + f)) 6 = true ∧ L.length < 400
      · rw [if_pos hc, if_neg (fun h9 => by rw [hb1'.mp h9] at hc; exact absurd hc.1 (by decide)), if_neg (fun h9 => hlogM.mp h9 hc.2), m_w0, jbin0_s, if_neg (by decide)]
        simp only [chk_t (n32_inb (show 8 * p + f ≤ 100000 by omega) (show 8 * p + f < 160 by omega)), n32_c (show 8 * p + f ≤ 1000 by omega)]
        rw [jset_ne (q := 384) (by omega), jset_ne (q := 358) (k := 384) (by omega), jset_ne (q := 358) (by omega)]
      · rw [if_neg hc]
        by_cases h64 : SM 384 (8 * p + f) < (64 : Int32)
        · rw [if_pos h64, m_w2, jbin0_s, if_pos rfl]
        · rw [if_neg h64, if_pos (hlogM.mpr fun h9 => hc ⟨by simpa using fun h8 => h64 (hb1'.mpr h8), h9⟩), m_w2, jbin0_s, if_pos rfl]
    by_cases hc : bt (SM 384 (8 * p + f)) 6 = true ∧ L.length < 400
    · generalize hSM1 : jset (jset (jset SM 358 0 0) 384 (8 * p + f) (SM 384 (8 * p + f) - 64)) 358 30 (SM 358 30 + 1) = SM1 at eM
      have hfr : ∀ q j, q ≠ 384 → q ≠ 358 → SM1 q j = SM q j := fun q j a b => by rw [← hSM1, jset_ne (by omega), jset_ne (by omega), jset_ne (by omega)]
      have m384 : ∀ j, SM1 384 j = if j = 8 * p + f then wb (SM 384 (8 * p + f)) 6 0 else SM 384 j := fun j => by
        rw [← hSM1, jset_ne (by omega), jset_if]
        by_cases hj : j = 8 * p + f
        · rw [if_pos ⟨rfl, hj⟩, if_pos hj]
          exact hb3 hc.1
        · rw [if_neg (fun h => hj h.2), if_neg hj, jset_ne (by omega)]
      have h30 : SM1 358 30 = Int32.ofNat (L.length + 1) := by rw [← hSM1, jset_at, h.2.2.2.2.2.2.2.2.1, n32_succ]
      have h0 : SM1 358 0 = 0 := by rw [← hSM1, jset_ne (by omega), jset_ne (by omega), jset_at]
      clear hSM1
      obtain ⟨S1, ee, _, _, hI⟩ := inv_enter (S2 := S) (SM1 := SM1) (e := ent5 3 (Int32.ofNat p) (Int32.ofNat f) (-1) (-1)) h (fun q _ _ => rfl) ⟨(Or.inr (Or.inr (Or.inr (Or.inl ⟨rfl, f, by omega, rfl⟩)))), fun h9 => absurd (show (3 : Int32) = 0 ∨ (3 : Int32) = 1 ∨ (3 : Int32) = 2 from h9) (by decide)⟩ hc.2 (fun q j hq => hfr q j (by omega) (by omega)) h30 (ITr_same h.2.2.2.2.2.1 (fun q _ _ => rfl) (fun q j hq => hfr q j (by omega) (by omega))) (fun p9 hp99 => by
        have e1 : ent5 3 (Int32.ofNat p) (Int32.ofNat f) (-1) (-1) 1 = Int32.ofNat p := rfl
        have hold := IP1_pers h hp99
        by_cases hpp : p9 = p
        · rw [hpp, if_pos (Or.inr e1)]
          rw [hpp] at hold
          have htk : ∀ r j, tk (ent5 3 (Int32.ofNat p) (Int32.ofNat f) (-1) (-1)) (getP (82 + 12 * p) S) r j = (if r = 10 ∧ j = f then wb (getP (82 + 12 * p) S 10 j) 6 0 else getP (82 + 12 * p) S r j) := fun r j => by
            have cf : (ent5 3 (Int32.ofNat p) (Int32.ofNat f) (-1) (-1) 2).toNatClampNeg = f := n32_c (k := f) (by omega)
            unfold tk
            rw [if_neg (show ¬ (ent5 3 (Int32.ofNat p) (Int32.ofNat f) (-1) (-1) 0 = 0 ∨ ent5 3 (Int32.ofNat p) (Int32.ofNat f) (-1) (-1) 0 = 1) from fun h => h.elim (fun h => absurd (show (3 : Int32) = 0 from h) (by decide)) (fun h => absurd (show (3 : Int32) = 1 from h) (by decide))), if_neg (show ¬ ent5 3 (Int32.ofNat p) (Int32.ofNat f) (-1) (-1) 0 = 2 from fun h => absurd (show (3 : Int32) = 2 from h) (by decide)), if_pos (show ent5 3 (Int32.ofNat p) (Int32.ofNat f) (-1) (-1) 0 = 3 from rfl), cf]
          obtain ⟨o1, o2, o3⟩ := hold
          refine ⟨fun t ht => ?_, fun t ht f9 hf9 => ?_, fun f9 hf9 => ?_⟩
          · rw [htk, if_neg (by omega), hfr 381 _ (by omega) (by omega)]
            exact o1 t ht
          · rw [htk, if_neg (by omega), hfr 382 _ (by omega) (by omega)]
            exact o2 t ht f9 hf9
          · obtain ⟨c1, c2, c3, c4, c5⟩ := o3 f9 hf9
            rw [Nat.zero_add] at c1 c2 c3
            rw [hfr 386 _ (by omega) (by omega), hfr 385 _ (by omega) (by omega), m384, Nat.zero_add, Nat.zero_add, Nat.zero_add, htk, htk, htk, if_neg (show ¬ (9 = 10 ∧ f9 = f) by omega), if_neg (show ¬ (11 = 10 ∧ f9 = f) by omega)]
            by_cases hff : f9 = f
            · rw [if_pos (show 10 = 10 ∧ f9 = f from ⟨rfl, hff⟩), if_pos (show 8 * p + f9 = 8 * p + f by omega), c2, hff]
              refine ⟨by rw [← hff]; exact c1, rfl, by rw [← hff]; exact c3, bits_wb g4 (show 6 < 7 by omega) (by omega), fun t ht h9 => ?_⟩
              rw [hfr 383 _ (by omega) (by omega)] at h9
              show bt (wb (SM 384 (8 * p + f)) (Int32.ofNat 6) 0) t = false
              rw [wb_bt (by omega) (by omega), if_neg (by omega)]
              exact g5 t ht h9
            · rw [if_neg (show ¬ (10 = 10 ∧ f9 = f) from fun h => hff h.2), if_neg (show ¬ 8 * p + f9 = 8 * p + f by omega)]
              exact ⟨c1, c2, c3, c4, fun t ht h9 => c5 t ht (by rw [← hfr 383 t (by omega) (by omega)]; exact h9)⟩
        · have hne : ¬ (ent5 3 (Int32.ofNat p) (Int32.ofNat f) (-1) (-1) 1 = -1 ∨ ent5 3 (Int32.ofNat p) (Int32.ofNat f) (-1) (-1) 1 = Int32.ofNat p9) := by
            rw [e1]
            exact fun h => h.elim (fun h => n32_m1 (by omega) h) (fun h => hpp (n32_inj (by omega) (by omega) h).symm)
          rw [if_neg hne]
          refine IP1_c2 hold (fun _ _ _ => rfl) (fun t ht => hfr 381 _ (by omega) (by omega)) (fun t ht f9 hf9 => hfr 382 _ (by omega) (by omega)) (fun q f9 h1 h2 hf9 => ?_) (fun t ht h9 => by rw [hfr 383 _ (by omega) (by omega)] at h9; exact h9)
          by_cases hq4 : q = 384
          · rw [hq4, m384, if_neg (by omega)]
          · exact hfr q _ hq4 (by omega))
      obtain ⟨S7, ev, hf7, _⟩ := f_viewNow hI (fun _ _ => rfl) hp9 hf
      obtain ⟨G, eg, hfG, hg0, hvG, _⟩ := (inv_views hI).2.1
      refine AGv_ok (v := vwM SM1 p f) (S1 := (S7, L ++ [ent5 3 (Int32.ofNat p) (Int32.ofNat f) (-1) (-1)])) (SM1 := G) ?_ ?_ (by rw [hg0]; exact h0) (inv_fr hI (fr80 hf7) hfG) (vwM_big hI (by omega) (by omega))
      · unfold f_X10_release
        rw [f_per_y hp, jbind_s, f_flg_y hq, jbind_s, chk_t (in20 hp9), chk_t (in8 hf), n32_c (show p ≤ 1000 by omega), n32_c (show f ≤ 1000 by omega), g2, f_hasBit, jbin0_s, if_neg (hb6_1 hc.1), hlog, if_pos hc.2, jbind_s, ee, jbin0_s, ev, jbin0_s]
      · rw [eM, if_pos hc, eg, jbin0_s, hvG p (by omega) f (by omega)]
    · refine AGv_2 (v := 0) (v2 := 0) (S1 := (S, L)) (SM1 := jset SM 358 0 2) ?_ (by rw [eM, if_neg hc]) jset_at (by decide) (inv_thr h)
      unfold f_X10_release
      rw [f_per_y hp, jbind_s, f_flg_y hq, jbind_s, chk_t (in20 hp9), chk_t (in8 hf), n32_c (show p ≤ 1000 by omega), n32_c (show f ≤ 1000 by omega), g2, f_hasBit, jbin0_s]
      cases hb6 : bt (SM 384 (8 * p + f)) 6
      · rw [if_pos (hb6_0 hb6)]
      · rw [if_neg (hb6_1 hb6), hlog, if_neg (fun h9 => hc ⟨hb6, h9⟩)]
        rfl
  · refine AGv_1 (v := 0) (v2 := 0) (S1 := (S, L)) (SM1 := jset SM 358 0 1) ?_ ?_ jset_at (by decide) (inv_thr h)
    · unfold f_X10_release
      by_cases hp : 0 ≤ p1 ∧ p1 ≤ 19
      · rw [f_per_y hp, jbind_s, f_flg_n (fun hq => hall ⟨hp, hq⟩), jbind_t]
      · rw [f_per_n hp, jbind_t]
    · unfold f_X11_release joinK letE
      rw [m_person, jbin0_s]
      dsimp only
      by_cases hp : 0 ≤ p1 ∧ p1 ≤ 19
      · rw [rg_1 hp, if_neg (by decide), m_flag, jbin0_s, rg_0 (fun hq => hall ⟨hp, hq⟩), if_pos rfl, if_pos rfl, if_pos rfl, m_w1, jbin0_s, if_pos rfl]
      · rw [rg_0 hp, if_pos rfl, if_pos rfl, if_pos rfl, m_w1, jbin0_s, if_pos rfl]
end RLS
