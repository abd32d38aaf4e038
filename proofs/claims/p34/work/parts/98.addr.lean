section ADR
theorem m_removeRule {S : jS} {f n pl : Nat} (hf : f ≤ 7) (hn : n ≤ 5) (hpl : pl < n) (hc : S 372 f = Int32.ofNat n) : ∃ S1, f_X11_removeRule S (Int32.ofNat f) (Int32.ofNat pl) = some (0, S 374 (5 * f + pl), S1) ∧ S1 358 0 = 0 ∧ (∀ j, S1 372 j = if j = f then Int32.ofNat (n - 1) else S 372 j) ∧ (∀ j, S1 373 j = dl (5 * f + pl) (5 * f + n) (S 373) j) ∧ (∀ j, S1 374 j = dl (5 * f + pl) (5 * f + n) (S 374) j) ∧ ∀ q j, (¬ (372 ≤ q ∧ q ≤ 374) ∧ ¬ (q = 358 ∧ j = 0)) → S1 q j = S q j := by
  suffices hw : wq (f_X11_removeRule S (Int32.ofNat f) (Int32.ofNat pl)) (fun t v S1 => t = 0 ∧ v = S 374 (5 * f + pl) ∧ S1 358 0 = 0 ∧ (∀ j, S1 372 j = if j = f then Int32.ofNat (n - 1) else S 372 j) ∧ (∀ j, S1 373 j = dl (5 * f + pl) (5 * f + n) (S 373) j) ∧ (∀ j, S1 374 j = dl (5 * f + pl) (5 * f + n) (S 374) j) ∧ ∀ q j, (¬ (372 ≤ q ∧ q ≤ 374) ∧ ¬ (q = 358 ∧ j = 0)) → S1 q j = S q j) by
    obtain ⟨t, v, S1, e, rfl, rfl, h⟩ := wq_ex hw
    exact ⟨S1, e, h⟩
  have hp : (0 : Int32) ≤ Int32.ofNat f ∧ Int32.ofNat f ≤ 7 := by
    refine ⟨?_, ?_⟩
    · show Int32.ofNat 0 ≤ _
      rw [n32_le (by omega) (by omega)]
      omega
    · show _ ≤ Int32.ofNat 7
      rw [n32_le (by omega) (by omega)]
      omega
  have hq : (0 : Int32) ≤ Int32.ofNat pl ∧ Int32.ofNat pl ≤ Int32.ofNat n - 1 := by
    refine ⟨?_, ?_⟩
    · show Int32.ofNat 0 ≤ _
      rw [n32_le (by omega) (by omega)]
      omega
    · rw [n32_pred (by omega), n32_le (by omega) (by omega)]
      omega
  have cf : (Int32.ofNat f).toNatClampNeg = f := n32_c (by omega)
  unfold f_X11_removeRule
  rw [m_flag, jbin0_s, rg_1 hp]
  refine wq_join fun k2 hk2 => wq_ite (fun h => absurd h (by decide)) (fun _ => wq_chk (in8 hf) ?_)
  rw [cf, hc, m_in, jbin0_s, rg_1 hq]
  refine wq_ite (fun h => absurd h (by decide)) (fun _ => ?_)
  rw [hk2]
  dsimp only
  rw [m_w0, jbin0_s, if_neg (by decide), n32_5, n32_c (show 5 * f + pl ≤ 1000 by omega), cf, jset_ne (q := 374) (by omega), jset_ne (q := 372) (by omega), hc, n32_pred (by omega)]
  refine wq_chk (n32_inb (by omega) (by omega)) (wq_let (wq_chk (in8 hf) (wq_chk (in8 hf) (wq_let ?_))))
  refine wq_for (fun (K : jS → Int32 → Option (jR jS)) i (b : jS) => K b i) (n - 1) (fun i S3 => pl ≤ i ∧ S3 358 0 = 0 ∧ (∀ j, S3 372 j = if j = f then Int32.ofNat (n - 1) else S 372 j) ∧ (∀ j, S3 373 j = if 5 * f + pl ≤ j ∧ j < 5 * f + i then S 373 (j + 1) else S 373 j) ∧ (∀ j, S3 374 j = if 5 * f + pl ≤ j ∧ j < 5 * f + i then S 374 (j + 1) else S 374 j) ∧ ∀ q j, (¬ (372 ≤ q ∧ q ≤ 374) ∧ ¬ (q = 358 ∧ j = 0)) → S3 q j = S q j) (fun rec i S3 hi hP ih => ?_) (fun rec S3 hP => ?_) (n - 1 - pl) pl 1000 (jset (jset S 358 0 0) 372 f (Int32.ofNat (n - 1))) (by omega) (by omega) ⟨Nat.le_refl _, by rw [jset_ne (by omega), jset_at], fun j => ?_, fun j => by rw [if_neg (by omega), jset_ne (by omega), jset_ne (by omega)], fun j => by rw [if_neg (by omega), jset_ne (by omega), jset_ne (by omega)], fun q j hq => by rw [jset_ne (by omega), jset_ne (by omega)]⟩
  · obtain ⟨h0, h1, h2, h3, h4, h5⟩ := hP
    have e : (Int32.ofNat (n - 1) ≤ Int32.ofNat i) = (n - 1 ≤ i) := n32_le (by omega) (by omega)
    have e372 : S3 372 f = Int32.ofNat (n - 1) := by rw [h2, if_pos rfl]
    rw [e372]
    refine wq_chk (in8 hf) (wq_ite (fun h => absurd (Eq.mp e h) (by omega)) (fun _ => ?_))
    have c0 : (Int32.ofNat (5 * f + i)).toNatClampNeg = 5 * f + i := n32_c (by omega)
    have c1 : (Int32.ofNat (5 * f + i + 1)).toNatClampNeg = 5 * f + i + 1 := n32_c (by omega)
    rw [n32_5, n32_succ, n32_succ, c0, c1]
    refine wq_chk (n32_inb (by omega) (by omega)) (wq_chk (n32_inb (by omega) (by omega)) (wq_let (wq_chk (n32_inb (by omega) (by omega)) (wq_chk (n32_inb (by omega) (by omega)) (wq_let (wq_let ?_))))))
    rw [jset_ne (q := 374) (k := 373) (by omega)]
    have sh : ∀ (r : Nat), (∀ j, S3 r j = if 5 * f + pl ≤ j ∧ j < 5 * f + i then S r (j + 1) else S r j) → ∀ j, (if j = 5 * f + i then S3 r (5 * f + i + 1) else S3 r j) = if 5 * f + pl ≤ j ∧ j < 5 * f + (i + 1) then S r (j + 1) else S r j := fun r hr j => by
      by_cases hj : j = 5 * f + i
      · rw [if_pos hj, hr, if_neg (by omega), if_pos (by omega), hj]
      · rw [if_neg hj, hr]
        by_cases h9 : 5 * f + pl ≤ j ∧ j < 5 * f + i
        · rw [if_pos h9, if_pos (by omega)]
        · rw [if_neg h9, if_neg (by omega)]
    refine ih _ ⟨by omega, ?_, fun j => ?_, fun j => ?_, fun j => ?_, fun q j hq => ?_⟩
    · rw [js2_o (by omega) (by omega)]
      exact h1
    · rw [js2_o (by omega) (by omega)]
      exact h2 j
    · rw [js2_1 (by omega)]
      exact sh _ h3 j
    · rw [js2_2 (by omega)]
      exact sh _ h4 j
    · rw [js2_o (by omega) (by omega)]
      exact h5 q j hq
  · obtain ⟨h0, h1, h2, h3, h4, h5⟩ := hP
    have e372 : S3 372 f = Int32.ofNat (n - 1) := by rw [h2, if_pos rfl]
    rw [e372]
    refine wq_chk (in8 hf) (wq_ite (fun _ => ?_) (fun h => absurd (Int32.le_refl _) h))
    refine ⟨rfl, rfl, h1, h2, fun j => ?_, fun j => ?_, h5⟩
    · rw [h3]
      unfold dl
      by_cases h9 : 5 * f + pl ≤ j ∧ j < 5 * f + (n - 1)
      · rw [if_pos h9, if_pos (by omega)]
      · rw [if_neg h9, if_neg (by omega)]
    · rw [h4]
      unfold dl
      by_cases h9 : 5 * f + pl ≤ j ∧ j < 5 * f + (n - 1)
      · rw [if_pos h9, if_pos (by omega)]
      · rw [if_neg h9, if_neg (by omega)]
  · rw [jset_if]
    by_cases hj : j = f
    · rw [if_pos ⟨rfl, hj⟩, if_pos hj]
    · rw [if_neg (fun h => hj h.2), if_neg hj, jset_ne (by omega)]
/-- 10: removeRule -/
theorem ag_10 {S SM : jS} {L : jLg} (h : InvL S L SM) : ∀ p1 p2, AGv (f_X10_removeRule S p1 p2) 1 0 2 (f_X11_removeRule SM p1 p2) (fun S1 SM1 => InvL S1 L SM1) := fun p1 p2 => by
  by_cases hp : 0 ≤ p1 ∧ p1 ≤ 7
  · obtain ⟨f, hf, rfl⟩ := n32_rg (n := 7) (by omega) hp
    obtain ⟨n, hn, e1, e2, e3⟩ := h.2.2.2.1 f (by omega)
    have hrg : (0 ≤ p2 ∧ p2 ≤ Int32.ofNat n - 1) ↔ ∃ pl, pl < n ∧ p2 = Int32.ofNat pl := by
      constructor
      · intro hq
        rcases Nat.eq_zero_or_pos n with h0 | h0
        · subst h0
          have := Int32.le_trans hq.1 hq.2
          exact absurd this (by decide)
        · rw [n32_pred h0] at hq
          obtain ⟨k, hk, e⟩ := n32_rg (by omega) hq
          exact ⟨k, by omega, e⟩
      · rintro ⟨pl, hpl, rfl⟩
        refine ⟨?_, ?_⟩
        · show Int32.ofNat 0 ≤ _
          rw [n32_le (by omega) (by omega)]
          omega
        · rw [n32_pred (by omega), n32_le (by omega) (by omega)]
          omega
    by_cases hq : ∃ pl, pl < n ∧ p2 = Int32.ofNat pl
    · obtain ⟨pl, hpl, rfl⟩ := hq
      obtain ⟨SM1, em, m1, m2, m3, m4, m5⟩ := m_removeRule hf hn hpl e2
      obtain ⟨S1, ec, s2, s3, s4, s5⟩ := f_delete hn hpl e1
      have el : (Int32.ofNat pl < Int32.ofNat n) = (pl < n) := n32_lt' (by omega) (by omega)
      have el2 : (Int32.ofNat n ≤ Int32.ofNat pl) = (n ≤ pl) := n32_le (by omega) (by omega)
      refine AGv_ok (v := SM 374 (5 * f + pl)) ?_ em m1 ?_ (S1 := S1) (by obtain ⟨_, _, _, o9, ho9, eo9⟩ := e3 pl (by omega); rw [eo9]; exact n32_big (by omega))
      · unfold f_X10_removeRule joinK
        rw [f_flg_y hp, jbind_s, chk_t (in8 hf), n32_c (show f ≤ 1000 by omega), e1]
        dsimp only
        simp only [el]
        rw [if_neg (n32_nn (by omega)), if_pos hpl]
        have eo : f_X3_outcomeOf S (322 + 3 * f) (Int32.ofNat pl) = some (0, SM 374 (5 * f + pl), ()) := by
          unfold f_X3_outcomeOf joinK
          dsimp only
          rw [e1]
          simp only [el2]
          rw [if_neg (n32_nn (by omega)), if_neg (by omega), chk_t (n32_inb (by omega) (by omega)), n32_c (by omega), show 322 + 3 * f + 2 = 324 + 3 * f by omega, (e3 pl (by omega)).2.1]
        rw [eo, jbin0_s, ec, jbin0_s]
      · refine inv_fl h (fun q j hq => s5 q j (by omega) (by omega) (by omega)) m5 (fun f9 hf9 => ?_)
        obtain ⟨n9, hn9, g1, g2, g3⟩ := h.2.2.2.1 f9 hf9
        by_cases hff : f9 = f
        · subst hff
          refine ⟨n - 1, by omega, s2, by rw [m2, if_pos rfl], fun k hk => ?_⟩
          rw [show 323 + 3 * f9 = 322 + 3 * f9 + 1 by omega, show 324 + 3 * f9 = 322 + 3 * f9 + 2 by omega, s3, s4, m3, m4]
          unfold dl
          by_cases h9 : pl ≤ k ∧ k + 1 < n
          · rw [if_pos h9, if_pos (by omega), if_pos h9, if_pos (by omega)]
            have := e3 (k + 1) (by omega)
            rw [show 323 + 3 * f9 = 322 + 3 * f9 + 1 by omega, show 324 + 3 * f9 = 322 + 3 * f9 + 2 by omega] at this
            exact this
          · rw [if_neg h9, if_neg (by omega), if_neg h9, if_neg (by omega)]
            have := e3 k hk
            rw [show 323 + 3 * f9 = 322 + 3 * f9 + 1 by omega, show 324 + 3 * f9 = 322 + 3 * f9 + 2 by omega] at this
            exact this
        · refine ⟨n9, hn9, by rw [s5 _ _ (by omega) (by omega) (by omega)]; exact g1, by rw [m2, if_neg hff]; exact g2, fun k hk => ?_⟩
          rw [s5 _ _ (by omega) (by omega) (by omega), s5 (324 + 3 * f9) _ (by omega) (by omega) (by omega), m3, m4]
          unfold dl
          rw [if_neg (by omega), if_neg (by omega)]
          exact g3 k hk
    · refine AGv_3 (v := 0) (v2 := 0) (S1 := S) (SM1 := jset SM 358 0 2) ?_ ?_ jset_at (by decide) (inv_thr h)
      · unfold f_X10_removeRule joinK
        rw [f_flg_y hp, jbind_s, chk_t (in8 hf), n32_c (show f ≤ 1000 by omega), e1]
        dsimp only
        by_cases h1 : p2 < 0
        · rw [if_pos h1]
        · rw [if_neg h1]
          by_cases h2 : p2 < Int32.ofNat n
          · exfalso
            have h0 := Int32.le_iff_toInt_le.mp (Int32.not_lt.mp h1)
            have h2 := Int32.lt_iff_toInt_lt.mp h2
            rw [Int32.toInt_ofNat_of_lt (show n < 2 ^ 31 by omega)] at h2
            have : (0 : Int32).toInt = 0 := rfl
            refine hq ⟨p2.toInt.toNat, by omega, Int32.toInt_inj.mp ?_⟩
            rw [Int32.toInt_ofNat_of_lt (by omega)]
            omega
          · rw [if_neg h2]
      · unfold f_X11_removeRule joinK
        rw [m_flag, jbin0_s, rg_1 hp]
        dsimp only
        rw [if_neg (by decide), chk_t (in8 hf), n32_c (show f ≤ 1000 by omega), e2, m_in, jbin0_s, rg_0 (fun h9 => hq (hrg.mp h9)), if_pos rfl, m_w2, jbin0_s, if_pos rfl]
  · refine AGv_1 (v := 0) (v2 := 0) (S1 := S) (SM1 := jset SM 358 0 1) ?_ ?_ jset_at (by decide) (inv_thr h)
    · unfold f_X10_removeRule
      rw [f_flg_n hp, jbind_t]
    · unfold f_X11_removeRule joinK
      rw [m_flag, jbin0_s, rg_0 hp]
      dsimp only
      rw [if_pos rfl, m_w1, jbin0_s, if_pos rfl]
end ADR
