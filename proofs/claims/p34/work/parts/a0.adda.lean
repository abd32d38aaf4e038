section ADA
theorem ins_at {pl n k : Nat} {v : Int32} {f : Nat → Int32} (h : k = pl) : ins pl n v f k = v := if_pos h
theorem ins_hi {pl n k : Nat} {v : Int32} {f : Nat → Int32} (h : pl < k) (h1 : k ≤ n) : ins pl n v f k = f (k - 1) := by
  unfold ins
  rw [if_neg (by omega), if_pos ⟨h, h1⟩]
theorem ins_lo {pl n k : Nat} {v : Int32} {f : Nat → Int32} (h : k ≠ pl) (h1 : ¬ (pl < k ∧ k ≤ n)) : ins pl n v f k = f k := by
  unfold ins
  rw [if_neg h, if_neg h1]
theorem rg_le {k n : Nat} (hk : k ≤ n) (hn : n ≤ 100000) : (0 : Int32) ≤ Int32.ofNat k ∧ Int32.ofNat k ≤ Int32.ofNat n := by
  refine ⟨?_, ?_⟩
  · show Int32.ofNat 0 ≤ _
    rw [n32_le (by omega) (by omega)]
    omega
  · rw [n32_le (by omega) (by omega)]
    exact hk
theorem m_addRule {S : jS} {f n pl a o : Nat} (hf : f ≤ 7) (ha : a ≤ 5) (ho : o ≤ 9) (hn : n < 5) (hpl : pl ≤ n) (hc : S 372 f = Int32.ofNat n) : ∃ S1, f_X11_addRule S (Int32.ofNat f) (Int32.ofNat pl) (Int32.ofNat a) (Int32.ofNat o) = some (0, Int32.ofNat (n + 1), S1) ∧ S1 358 0 = 0 ∧ (∀ j, S1 372 j = if j = f then Int32.ofNat (n + 1) else S 372 j) ∧ (∀ j, S1 373 j = ins (5 * f + pl) (5 * f + n) (Int32.ofNat a) (S 373) j) ∧ (∀ j, S1 374 j = ins (5 * f + pl) (5 * f + n) (Int32.ofNat o) (S 374) j) ∧ ∀ q j, (¬ (372 ≤ q ∧ q ≤ 374) ∧ ¬ (q = 358 ∧ j = 0)) → S1 q j = S q j := by
  suffices hw : wq (f_X11_addRule S (Int32.ofNat f) (Int32.ofNat pl) (Int32.ofNat a) (Int32.ofNat o)) (fun t v S1 => t = 0 ∧ v = Int32.ofNat (n + 1) ∧ S1 358 0 = 0 ∧ (∀ j, S1 372 j = if j = f then Int32.ofNat (n + 1) else S 372 j) ∧ (∀ j, S1 373 j = ins (5 * f + pl) (5 * f + n) (Int32.ofNat a) (S 373) j) ∧ (∀ j, S1 374 j = ins (5 * f + pl) (5 * f + n) (Int32.ofNat o) (S 374) j) ∧ ∀ q j, (¬ (372 ≤ q ∧ q ≤ 374) ∧ ¬ (q = 358 ∧ j = 0)) → S1 q j = S q j) by
    obtain ⟨t, v, S1, e, rfl, rfl, h⟩ := wq_ex hw
    exact ⟨S1, e, h⟩
  have cf : (Int32.ofNat f).toNatClampNeg = f := n32_c (by omega)
  have e5 : (Int32.ofNat n = (5 : Int32)) = (n = 5) := n32_eq (b := 5) (by omega) (by omega)
  have hf7 : (0 : Int32) ≤ Int32.ofNat f ∧ Int32.ofNat f ≤ 7 := rg_le (n := 7) hf (by omega)
  have ha5 : (0 : Int32) ≤ Int32.ofNat a ∧ Int32.ofNat a ≤ 5 := rg_le (n := 5) ha (by omega)
  have ho9 : (0 : Int32) ≤ Int32.ofNat o ∧ Int32.ofNat o ≤ 9 := rg_le (n := 9) ho (by omega)
  unfold f_X11_addRule
  rw [m_flag, jbin0_s, rg_1 hf7]
  refine wq_join fun k2 hk2 => wq_join fun k3 hk3 => wq_ite (fun h => absurd h (by decide)) (fun _ => ?_)
  rw [m_audience, jbin0_s, rg_1 ha5, if_neg (by decide), m_in, jbin0_s, rg_1 ho9, if_neg (by decide), hk2]
  refine wq_join fun k13 hk13 => wq_join fun k14 hk14 => wq_ite (fun h => absurd h (by decide)) (fun _ => wq_chk (in8 hf) ?_)
  rw [cf, hc, m_in, jbin0_s, rg_1 (rg_le hpl (by omega)), if_neg (by decide), hk13]
  refine wq_join fun k21 hk21 => wq_ite (fun h => absurd h (by decide)) (fun _ => wq_ite (fun h => absurd h (by decide)) (fun _ => wq_chk (in8 hf) ?_))
  rw [cf, hc]
  refine wq_ite (fun h => absurd (Eq.mp e5 h) (by omega)) (fun _ => ?_)
  rw [hk21]
  dsimp only
  rw [m_w0, jbin0_s, if_neg (by decide), cf, jset_ne (q := 372) (by omega), hc]
  refine wq_chk (in8 hf) (wq_let ?_)
  refine wq_fall (fun (K : jS → Int32 → Option (jR jS)) (b : jS × Int32) => K b.1 b.2) (fun k b9 => b9.2 = Int32.ofNat (pl + k) ∧ pl + k ≤ n ∧ b9.1 358 0 = 0 ∧ (∀ j, b9.1 372 j = S 372 j) ∧ (∀ j, b9.1 373 j = if 5 * f + (pl + k) < j ∧ j ≤ 5 * f + n then S 373 (j - 1) else S 373 j) ∧ (∀ j, b9.1 374 j = if 5 * f + (pl + k) < j ∧ j ≤ 5 * f + n then S 374 (j - 1) else S 374 j) ∧ ∀ q j, (¬ (372 ≤ q ∧ q ≤ 374) ∧ ¬ (q = 358 ∧ j = 0)) → b9.1 q j = S q j) (fun rec k b9 hP ih => ?_) (n - pl) 1000 (jset S 358 0 0, Int32.ofNat n) (by omega) ⟨congrArg Int32.ofNat (show n = pl + (n - pl) by omega), by omega, show jset S 358 0 0 358 0 = 0 from jset_at, fun j => show jset S 358 0 0 372 j = _ from jset_ne (by omega), fun j => by rw [if_neg (by omega)]; show jset S 358 0 0 373 j = _; exact jset_ne (by omega), fun j => by rw [if_neg (by omega)]; show jset S 358 0 0 374 j = _; exact jset_ne (by omega), fun q j hq => show jset S 358 0 0 q j = _ from jset_ne (by omega)⟩
  obtain ⟨S4, x5⟩ := b9
  obtain ⟨h0, hle, h1, h2, h3, h4, h5⟩ := hP
  dsimp only at h0 h1 h2 h3 h4 h5 ⊢
  subst h0
  have e : (Int32.ofNat (pl + k) ≤ Int32.ofNat pl) = (pl + k ≤ pl) := n32_le (by omega) (by omega)
  refine wq_ite (fun h => ?_) (fun h => ?_)
  · have h := Eq.mp e h
    have hk : k = 0 := by omega
    subst hk
    rw [n32_5, n32_c (show 5 * f + pl ≤ 1000 by omega)]
    refine wq_chk (n32_inb (by omega) (by omega)) (wq_let (wq_chk (n32_inb (by omega) (by omega)) (wq_let (wq_chk (in8 hf) (wq_chk (in8 hf) (wq_let (wq_chk (in8 hf) ?_)))))))
    have fin : ∀ (r : Nat) (v : Int32), (∀ j, S4 r j = if 5 * f + (pl + 0) < j ∧ j ≤ 5 * f + n then S r (j - 1) else S r j) → ∀ j, (if j = 5 * f + pl then v else S4 r j) = ins (5 * f + pl) (5 * f + n) v (S r) j := fun r v hr j => by
      unfold ins
      by_cases hj : j = 5 * f + pl
      · rw [if_pos hj, if_pos hj]
      · rw [if_neg hj, if_neg hj, hr]
        rfl
    have e372 : jset (jset S4 373 (5 * f + pl) (Int32.ofNat a)) 374 (5 * f + pl) (Int32.ofNat o) 372 f = Int32.ofNat n := by
      rw [js2_o (by omega) (by omega), h2]
      exact hc
    rw [e372, n32_succ]
    refine ⟨rfl, jset_at, ?_, fun j => ?_, fun j => ?_, fun j => ?_, fun q j hq => ?_⟩
    · rw [jset_ne (by omega), js2_o (by omega) (by omega)]
      exact h1
    · rw [jset_if]
      by_cases hj : j = f
      · rw [if_pos ⟨rfl, hj⟩, if_pos hj]
      · rw [if_neg (fun h => hj h.2), if_neg hj, js2_o (by omega) (by omega)]
        exact h2 j
    · rw [jset_ne (by omega), js2_1 (by omega)]
      exact fin _ _ h3 j
    · rw [jset_ne (by omega), js2_2 (by omega)]
      exact fin _ _ h4 j
    · rw [jset_ne (by omega), js2_o (by omega) (by omega)]
      exact h5 q j hq
  · have h : ¬ pl + k ≤ pl := fun h9 => h (Eq.mpr e h9)
    obtain ⟨k1, rfl⟩ : ∃ k1, k = k1 + 1 := ⟨k - 1, by omega⟩
    have ed : Int32.ofNat (5 * f + (pl + (k1 + 1))) - (1 : Int32) = Int32.ofNat (5 * f + (pl + k1)) := by
      rw [n32_pred (by omega)]
      rfl
    have ed2 : Int32.ofNat (pl + (k1 + 1)) + (-1 : Int32) = Int32.ofNat (pl + k1) := by
      rw [← Int32.sub_eq_add_neg, n32_pred (by omega)]
      rfl
    have c1 : (Int32.ofNat (5 * f + (pl + (k1 + 1)))).toNatClampNeg = 5 * f + (pl + (k1 + 1)) := n32_c (by omega)
    have c0 : (Int32.ofNat (5 * f + (pl + k1))).toNatClampNeg = 5 * f + (pl + k1) := n32_c (by omega)
    rw [n32_5, ed, ed2, c1, c0]
    refine wq_chk (n32_inb (by omega) (by omega)) (wq_chk (n32_inb (by omega) (by omega)) (wq_let (wq_chk (n32_inb (by omega) (by omega)) (wq_chk (n32_inb (by omega) (by omega)) (wq_let (wq_let ?_))))))
    rw [jset_ne (q := 374) (k := 373) (by omega)]
    have sh : ∀ (r : Nat), (∀ j, S4 r j = if 5 * f + (pl + (k1 + 1)) < j ∧ j ≤ 5 * f + n then S r (j - 1) else S r j) → ∀ j, (if j = 5 * f + (pl + (k1 + 1)) then S4 r (5 * f + (pl + k1)) else S4 r j) = if 5 * f + (pl + k1) < j ∧ j ≤ 5 * f + n then S r (j - 1) else S r j := fun r hr j => by
      by_cases hj : j = 5 * f + (pl + (k1 + 1))
      · rw [if_pos hj, hr, if_neg (by omega), if_pos (by omega), hj]
        rfl
      · rw [if_neg hj, hr]
        by_cases h9 : 5 * f + (pl + (k1 + 1)) < j ∧ j ≤ 5 * f + n
        · rw [if_pos h9, if_pos (by omega)]
        · rw [if_neg h9, if_neg (by omega)]
    refine ih k1 (jset (jset S4 373 (5 * f + (pl + (k1 + 1))) (S4 373 (5 * f + (pl + k1)))) 374 (5 * f + (pl + (k1 + 1))) (S4 374 (5 * f + (pl + k1))), Int32.ofNat (pl + k1)) rfl ⟨rfl, by omega, ?_, fun j => ?_, fun j => ?_, fun j => ?_, fun q j hq => ?_⟩
    · dsimp only
      rw [js2_o (by omega) (by omega)]
      exact h1
    · dsimp only
      rw [js2_o (by omega) (by omega)]
      exact h2 j
    · dsimp only
      rw [js2_1 (by omega)]
      exact sh _ h3 j
    · dsimp only
      rw [js2_2 (by omega)]
      exact sh _ h4 j
    · dsimp only
      rw [js2_o (by omega) (by omega)]
      exact h5 q j hq
/-- 9: addRule -/
theorem ag_9 {S SM : jS} {L : jLg} (h : InvL S L SM) : ∀ p1 p2 p3 p4, AGv (f_X10_addRule S p1 p2 p3 p4) 1 3 2 (f_X11_addRule SM p1 p2 p3 p4) (fun S1 SM1 => InvL S1 L SM1) := fun p1 p2 p3 p4 => by
  by_cases hall : (0 ≤ p1 ∧ p1 ≤ 7) ∧ (0 ≤ p3 ∧ p3 ≤ 5) ∧ (0 ≤ p4 ∧ p4 ≤ 9)
  · obtain ⟨hp, h3, h4⟩ := hall
    obtain ⟨f, hf, rfl⟩ := n32_rg (n := 7) (by omega) hp
    obtain ⟨a, ha, rfl⟩ := n32_rg (n := 5) (by omega) h3
    obtain ⟨o, ho, rfl⟩ := n32_rg (n := 9) (by omega) h4
    obtain ⟨n, hn, e1, e2, e3⟩ := h.2.2.2.1 f (by omega)
    have e5 : (Int32.ofNat n = (5 : Int32)) = (n = 5) := n32_eq (b := 5) (by omega) (by omega)
    have e5c : (Int32.ofNat n < (5 : Int32)) = (n < 5) := n32_lt' (n := n) (i := 5) (by omega) (by omega)
    by_cases hq : 0 ≤ p2 ∧ p2 ≤ Int32.ofNat n
    · obtain ⟨pl, hpl, rfl⟩ := n32_rg (by omega) hq
      by_cases hn5 : n < 5
      · obtain ⟨SM1, em, m1, m2, m3, m4, m5⟩ := m_addRule hf ha ho hn5 hpl e2
        obtain ⟨S1, ec, s2, s3, s4, s5⟩ := f_insert (v1 := Int32.ofNat a) (v2 := Int32.ofNat o) hn5 hpl e1
        refine AGv_ok (v := Int32.ofNat (n + 1)) (S1 := S1) ?_ em m1 ?_ (n32_big (by omega))
        · unfold f_X10_addRule joinK
          rw [f_flg_y hp, jbind_s, f_aud_y h3, jbind_s, f_rng_y h4, jbind_s, chk_t (in8 hf), n32_c (show f ≤ 1000 by omega), e1]
          dsimp only
          simp only [e5c]
          rw [if_neg (n32_nn (by omega)), if_pos hq.2, if_pos hn5, ec, jbin0_s, s2]
        · refine inv_fl h (fun q j hq => s5 q j (by omega) (by omega) (by omega)) m5 (fun f9 hf9 => ?_)
          obtain ⟨n9, hn9, g1, g2, g3⟩ := h.2.2.2.1 f9 hf9
          by_cases hff : f9 = f
          · subst hff
            refine ⟨n + 1, by omega, s2, by rw [m2, if_pos rfl], fun k hk => ?_⟩
            rw [show 323 + 3 * f9 = 322 + 3 * f9 + 1 by omega, show 324 + 3 * f9 = 322 + 3 * f9 + 2 by omega, s3, s4, m3, m4]
            by_cases hkp : k = pl
            · rw [ins_at hkp, ins_at hkp, ins_at (show 5 * f9 + k = 5 * f9 + pl by omega), ins_at (show 5 * f9 + k = 5 * f9 + pl by omega)]
              exact ⟨rfl, rfl, ⟨a, by omega, rfl⟩, ⟨o, by omega, rfl⟩⟩
            · by_cases h9 : pl < k ∧ k ≤ n
              · rw [ins_hi h9.1 h9.2, ins_hi h9.1 h9.2, ins_hi (show 5 * f9 + pl < 5 * f9 + k by omega) (by omega), ins_hi (show 5 * f9 + pl < 5 * f9 + k by omega) (by omega)]
                have := e3 (k - 1) (by omega)
                rw [show 323 + 3 * f9 = 322 + 3 * f9 + 1 by omega, show 324 + 3 * f9 = 322 + 3 * f9 + 2 by omega] at this
                rw [show 5 * f9 + k - 1 = 5 * f9 + (k - 1) by omega]
                exact this
              · rw [ins_lo hkp h9, ins_lo hkp h9, ins_lo (show 5 * f9 + k ≠ 5 * f9 + pl by omega) (by omega), ins_lo (show 5 * f9 + k ≠ 5 * f9 + pl by omega) (by omega)]
                have := e3 k hk
                rw [show 323 + 3 * f9 = 322 + 3 * f9 + 1 by omega, show 324 + 3 * f9 = 322 + 3 * f9 + 2 by omega] at this
                exact this
          · refine ⟨n9, hn9, by rw [s5 _ _ (by omega) (by omega) (by omega)]; exact g1, by rw [m2, if_neg hff]; exact g2, fun k hk => ?_⟩
            rw [s5 _ _ (by omega) (by omega) (by omega), s5 (324 + 3 * f9) _ (by omega) (by omega) (by omega), m3, m4]
            rw [ins_lo (by omega) (by omega), ins_lo (by omega) (by omega)]
            exact g3 k hk
      · refine AGv_2 (v := 0) (v2 := 0) (S1 := S) (SM1 := jset SM 358 0 3) ?_ ?_ jset_at (by decide) (inv_thr h)
        · unfold f_X10_addRule joinK
          rw [f_flg_y hp, jbind_s, f_aud_y h3, jbind_s, f_rng_y h4, jbind_s, chk_t (in8 hf), n32_c (show f ≤ 1000 by omega), e1]
          dsimp only
          simp only [e5c]
          rw [if_neg (n32_nn (by omega)), if_pos hq.2, if_neg hn5]
        · unfold f_X11_addRule joinK
          rw [m_flag, jbin0_s, rg_1 hp]
          dsimp only
          rw [if_neg (by decide), m_audience, jbin0_s, rg_1 h3, if_neg (by decide), m_in, jbin0_s, rg_1 h4, if_neg (by decide), if_neg (by decide), chk_t (in8 hf), n32_c (show f ≤ 1000 by omega), e2, m_in, jbin0_s, rg_1 hq, if_neg (by decide), if_neg (by decide), if_neg (by decide), chk_t (in8 hf)]
          simp only [e5]
          rw [if_pos (by omega), m_w3, jbin0_s, if_pos rfl]
    · refine AGv_3 (v := 0) (v2 := 0) (S1 := S) (SM1 := jset SM 358 0 2) ?_ ?_ jset_at (by decide) (inv_thr h)
      · unfold f_X10_addRule joinK
        rw [f_flg_y hp, jbind_s, f_aud_y h3, jbind_s, f_rng_y h4, jbind_s, chk_t (in8 hf), n32_c (show f ≤ 1000 by omega), e1]
        dsimp only
        by_cases h1 : p2 < 0
        · rw [if_pos h1]
        · rw [if_neg h1, if_neg (fun h2 => hq ⟨Int32.not_lt.mp h1, h2⟩)]
      · unfold f_X11_addRule joinK
        rw [m_flag, jbin0_s, rg_1 hp]
        dsimp only
        rw [if_neg (by decide), m_audience, jbin0_s, rg_1 h3, if_neg (by decide), m_in, jbin0_s, rg_1 h4, if_neg (by decide), if_neg (by decide), chk_t (in8 hf), n32_c (show f ≤ 1000 by omega), e2, m_in, jbin0_s, rg_0 hq, if_pos rfl, if_neg (by decide), if_pos rfl, m_w2, jbin0_s, if_pos rfl]
  · refine AGv_1 (v := 0) (v2 := 0) (S1 := S) (SM1 := jset SM 358 0 1) ?_ ?_ jset_at (by decide) (inv_thr h)
    · unfold f_X10_addRule
      by_cases hp : 0 ≤ p1 ∧ p1 ≤ 7
      · rw [f_flg_y hp, jbind_s]
        by_cases h3 : 0 ≤ p3 ∧ p3 ≤ 5
        · rw [f_aud_y h3, jbind_s, f_rng_n (fun h4 => hall ⟨hp, h3, h4⟩), jbind_t]
        · rw [f_aud_n h3, jbind_t]
      · rw [f_flg_n hp, jbind_t]
    · unfold f_X11_addRule joinK
      rw [m_flag, jbin0_s]
      dsimp only
      by_cases hp : 0 ≤ p1 ∧ p1 ≤ 7
      · rw [rg_1 hp, if_neg (by decide), m_audience, jbin0_s]
        by_cases h3 : 0 ≤ p3 ∧ p3 ≤ 5
        · rw [rg_1 h3, if_neg (by decide), m_in, jbin0_s, rg_0 (fun h4 => hall ⟨hp, h3, h4⟩), if_pos rfl, if_pos rfl, if_pos rfl, m_w1, jbin0_s, if_pos rfl]
        · rw [rg_0 h3, if_pos rfl, if_pos rfl, if_pos rfl, m_w1, jbin0_s, if_pos rfl]
      · rw [rg_0 hp, if_pos rfl, if_pos rfl, if_pos rfl, m_w1, jbin0_s, if_pos rfl]
end ADA
