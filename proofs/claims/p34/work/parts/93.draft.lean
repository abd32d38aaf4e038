section DRF
theorem inv_dr {S SM S1 SM1 : jS} {L : jLg} (h : InvL S L SM) (hS : ∀ q j, (∀ a, a < 6 → q ≠ 37 + 4 * a ∧ q ≠ 38 + 4 * a) → S1 q j = S q j) (hM : ∀ q j, (q ≠ 361 ∧ q ≠ 362 ∧ ¬ (q = 358 ∧ j = 0)) → SM1 q j = SM q j) (hd : IDr S1 SM1) : InvL S1 L SM1 := by
  obtain ⟨h1, h2, h3, h4, h5, h6, h7, h8⟩ := h
  exact ⟨IPe_c h1 (fun q j _ _ => hS q j (fun a ha => by omega)) (fun q j _ _ => hM q j (by omega)), hd,
    ITx_c h3 (fun q j _ _ => hS q j (fun a ha => by omega)) (fun a j ha => ⟨hS _ _ (fun a ha => by omega), hS _ _ (fun a ha => by omega)⟩) (fun q j _ _ => hM q j (by omega)), IFl_c h4 (fun q j _ _ => hS q j (fun a ha => by omega)) (fun q j _ _ => hM q j (by omega)),
    INe_c h5 (fun q j _ _ => hS q j (fun a ha => by omega)) (fun j => hM 375 j (by omega)), ITr_c h6 (fun q j _ _ => hS q j (fun a ha => by omega)) (fun q j hq => hM q j (by omega)), IPa_c h7 (fun q j _ _ => hS q j (fun a ha => by omega)) (fun q j _ _ => hM q j (by omega)),
    ILo_c h8 (fun q j _ _ => hS q j (fun a ha => by omega)) (hM 358 30 (by omega))⟩
theorem nar_char : ∀ s, s ≤ 126 → vp_nar .char (((Int32.ofNat s).toUInt32 % 65536).toInt32) = Int32.ofNat s := by decide +kernel
theorem f_append {S : jS} {b n s : Nat} (hn : n < 60) (h : S b 1 = Int32.ofNat n) (hs : s ≤ 126) : f_X8_append S b (Int32.ofNat s) = some (0, 0, jset (jset S (b + 1) n (Int32.ofNat s)) b 1 (Int32.ofNat (n + 1))) := by
  unfold f_X8_append joinK letE
  have e : ((60 : Int32) ≤ Int32.ofNat n) = (60 ≤ n) := n32_le (n := 60) (by omega) (by omega)
  rw [h]
  simp only [e]
  rw [if_neg (by omega), chk_t (n32_inb (by omega) hn), nar_char s hs, n32_c (by omega), jset_ne (by omega), h, n32_succ]
/-- 2: type -/
theorem ag_2 {S SM : jS} {L : jLg} (h : InvL S L SM) : ∀ p1 p2, AGv (f_X10_type S p1 p2) 1 2 0 (f_X11_type SM p1 p2) (fun S1 SM1 => InvL S1 L SM1) := fun p1 p2 => by
  by_cases hp : 0 ≤ p1 ∧ p1 ≤ 5
  · obtain ⟨a, ha, rfl⟩ := n32_rg (n := 5) (by omega) hp
    obtain ⟨n, hn, e1, e2, e3⟩ := h.2.1 a (by omega)
    by_cases hq : 33 ≤ p2 ∧ p2 ≤ 126
    · obtain ⟨s, hs, rfl⟩ := n32_rg (n := 126) (p := p2) (by omega) ⟨Int32.le_trans (by decide) hq.1, hq.2⟩
      have e60 : (Int32.ofNat n < (60 : Int32)) = (n < 60) := n32_lt' (n := n) (i := 60) (by omega) (by omega)
      have e60m : (Int32.ofNat n = (60 : Int32)) = (n = 60) := n32_eq (b := 60) (by omega) (by omega)
      by_cases hlt : n < 60
      · refine AGv_ok (v := Int32.ofNat (n + 1)) (S1 := jset (jset S (38 + 4 * a) n (Int32.ofNat s)) (37 + 4 * a) 1 (Int32.ofNat (n + 1))) (SM1 := jset (jset (jset SM 358 0 0) 361 (60 * a + n) (Int32.ofNat s)) 362 a (Int32.ofNat (n + 1))) ?_ ?_ ?_ ?_ (n32_big (by omega))
        · unfold f_X10_type
          rw [f_aud_y hp, jbind_s, f_rng_y hq, jbind_s, chk_t (in6 ha), n32_c (by omega), e1]
          simp only [e60]
          rw [if_pos hlt, f_append hlt e1 hs, jbin0_s, jset_at, show 37 + 4 * a + 1 = 38 + 4 * a by omega]
        · unfold f_X11_type joinK letE
          rw [m_audience, jbin0_s, rg_1 hp]
          dsimp only
          rw [if_neg (by decide), m_in, jbin0_s, rg_1 hq, if_neg (by decide), if_neg (by decide), chk_t (in6 ha), n32_c (by omega), e2]
          simp only [e60m]
          have eA : jset SM 358 0 0 362 a = Int32.ofNat n := by rw [jset_ne (by omega), e2]
          have eB : jset (jset SM 358 0 0) 361 (60 * a + n) (Int32.ofNat s) 362 a = Int32.ofNat n := by rw [jset_ne (by omega), eA]
          rw [if_neg (by omega), m_w0, jbin0_s, if_neg (by decide), eA, n32_60, chk_t (in6 ha), chk_t (n32_inb (by omega) (by omega)), n32_c (by omega), eB, n32_succ, jset_at, chk_t (in6 ha), chk_t (in6 ha), chk_t (in6 ha)]
        · rw [jset_ne (by omega), jset_ne (by omega), jset_at]
        · refine inv_dr h (fun q j hq9 => ?_) (fun q j hq9 => ?_) (fun a9 ha9 => ?_)
          · have := hq9 a (by omega)
            rw [jset_ne (by omega), jset_ne (by omega)]
          · rw [jset_ne (by omega), jset_ne (by omega), jset_ne (by omega)]
          · by_cases haa : a9 = a
            · subst haa
              refine ⟨n + 1, by omega, jset_at, jset_at, fun j hj => ?_⟩
              rw [jset_ne (by omega), jset_if, jset_ne (q := 361) (by omega), jset_if]
              by_cases hjn : j = n
              · rw [if_pos ⟨rfl, hjn⟩, if_pos ⟨rfl, by omega⟩]
                refine ⟨rfl, ?_, ?_⟩
                · show Int32.ofNat 0 ≤ _
                  rw [n32_le (by omega) (by omega)]
                  omega
                · show _ ≤ Int32.ofNat 65535
                  rw [n32_le (by omega) (by omega)]
                  omega
              · rw [if_neg (fun h => hjn h.2), if_neg (by omega), jset_ne (by omega)]
                exact e3 j hj
            · obtain ⟨n9, hn9, g1, g2, g3⟩ := h.2.1 a9 ha9
              refine ⟨n9, hn9, ?_, ?_, fun j hj => ?_⟩
              · rw [jset_ne (by omega), jset_ne (by omega)]
                exact g1
              · rw [jset_ne (by omega), jset_ne (by omega), jset_ne (by omega)]
                exact g2
              · rw [jset_ne (by omega), jset_ne (by omega), jset_ne (by omega), jset_ne (by omega), jset_ne (by omega)]
                exact g3 j hj
      · refine AGv_2 (v := 0) (v2 := 0) (S1 := S) (SM1 := jset SM 358 0 2) ?_ ?_ jset_at (by decide) (inv_thr h)
        · unfold f_X10_type
          rw [f_aud_y hp, jbind_s, f_rng_y hq, jbind_s, chk_t (in6 ha), n32_c (by omega), e1]
          simp only [e60]
          rw [if_neg hlt]
        · unfold f_X11_type joinK letE
          rw [m_audience, jbin0_s, rg_1 hp]
          dsimp only
          rw [if_neg (by decide), m_in, jbin0_s, rg_1 hq, if_neg (by decide), if_neg (by decide), chk_t (in6 ha), n32_c (by omega), e2]
          simp only [e60m]
          rw [if_pos (by omega), m_w2, jbin0_s, if_pos rfl]
    · refine AGv_1 (v := 0) (v2 := 0) (S1 := S) (SM1 := jset SM 358 0 1) ?_ ?_ jset_at (by decide) (inv_thr h)
      · unfold f_X10_type
        rw [f_aud_y hp, jbind_s, f_rng_n hq, jbind_t]
      · unfold f_X11_type joinK letE
        rw [m_audience, jbin0_s, rg_1 hp]
        dsimp only
        rw [if_neg (by decide), m_in, jbin0_s, rg_0 hq, if_pos rfl, if_pos rfl, m_w1, jbin0_s, if_pos rfl]
  · refine AGv_1 (v := 0) (v2 := 0) (S1 := S) (SM1 := jset SM 358 0 1) ?_ ?_ jset_at (by decide) (inv_thr h)
    · unfold f_X10_type
      rw [f_aud_n hp, jbind_t]
    · unfold f_X11_type joinK letE
      rw [m_audience, jbin0_s, rg_0 hp]
      dsimp only
      rw [if_pos rfl, if_pos rfl, m_w1, jbin0_s, if_pos rfl]
/-- 3: erase -/
theorem ag_3 {S SM : jS} {L : jLg} (h : InvL S L SM) : ∀ p1 p2, AGv (f_X10_erase S p1 p2) 1 0 0 (f_X11_erase SM p1 p2) (fun S1 SM1 => InvL S1 L SM1) := fun p1 p2 => by
  by_cases hp : 0 ≤ p1 ∧ p1 ≤ 5
  · obtain ⟨a, ha, rfl⟩ := n32_rg (n := 5) (by omega) hp
    obtain ⟨n, hn, e1, e2, e3⟩ := h.2.1 a (by omega)
    by_cases hq : 1 ≤ p2
    · have hm : ∃ m, m ≤ n ∧ (if (0 : Int32) < Int32.ofNat n - p2 then Int32.ofNat n - p2 else 0) = Int32.ofNat m ∧ (if Int32.ofNat n ≤ p2 then 0 else Int32.ofNat n - p2) = Int32.ofNat m := by
        by_cases hle : Int32.ofNat n ≤ p2
        · refine ⟨0, Nat.zero_le _, ?_, by rw [if_pos hle]; rfl⟩
          have h1 := Int32.le_iff_toInt_le.mp hle
          have h2 := Int32.le_iff_toInt_le.mp hq
          have h3 := Int32.toInt_lt p2
          rw [Int32.toInt_ofNat_of_lt (show n < 2 ^ 31 by omega)] at h1
          rw [if_neg]
          · rfl
          · intro h4
            have h4 := Int32.lt_iff_toInt_lt.mp h4
            have e : (Int32.ofNat n - p2).toInt = (n : Int) - p2.toInt := by
              rw [Int32.toInt_sub, Int32.toInt_ofNat_of_lt (show n < 2 ^ 31 by omega)]
              refine Int.bmod_eq_of_le ?_ ?_ <;> omega
            rw [e] at h4
            have : (0 : Int32).toInt = 0 := rfl
            omega
        · have h1 := Int32.lt_iff_toInt_lt.mp (Int32.not_le.mp hle)
          have h2 := Int32.le_iff_toInt_le.mp hq
          rw [Int32.toInt_ofNat_of_lt (show n < 2 ^ 31 by omega)] at h1
          have h10 : (1 : Int32).toInt = 1 := rfl
          rw [h10] at h2
          have e : Int32.ofNat n - p2 = Int32.ofNat (n - p2.toInt.toNat) := by
            refine Int32.toInt_inj.mp ?_
            rw [Int32.toInt_ofNat_of_lt (by omega), Int32.toInt_sub, Int32.toInt_ofNat_of_lt (show n < 2 ^ 31 by omega)]
            rw [Int.bmod_eq_of_le (by omega) (by omega)]
            omega
          refine ⟨n - p2.toInt.toNat, by omega, ?_, by rw [if_neg hle, e]⟩
          rw [e, if_pos]
          show Int32.ofNat 0 < _
          rw [n32_lt' (by omega) (by omega)]
          omega
      obtain ⟨m, hmn, em1, em2⟩ := hm
      refine AGv_ok (v := Int32.ofNat m) (S1 := jset S (37 + 4 * a) 1 (Int32.ofNat m)) (SM1 := jset (jset SM 358 0 0) 362 a (Int32.ofNat m)) ?_ ?_ ?_ ?_ (n32_big (by omega))
      · unfold f_X10_erase letE
        rw [f_aud_y hp, jbind_s, if_pos hq, chk_t (in6 ha), n32_c (by omega), e1, em1]
        dsimp only
        rw [jset_at]
      · unfold f_X11_erase joinK letE
        rw [m_audience, jbin0_s, rg_1 hp]
        dsimp only
        rw [if_neg (by decide), if_neg (fun h9 => Int32.not_lt.mpr hq h9), m_w0, jbin0_s, if_neg (by decide), chk_t (in6 ha), n32_c (by omega), jset_ne (by omega), e2]
        have e9 : ∀ (k : Int32 → Option (jR jS)), (if Int32.ofNat n ≤ p2 then k 0 else chk (inb (Int32.ofNat a) 6) (k (Int32.ofNat n - p2))) = k (Int32.ofNat m) := fun k => by
          rw [← em2]
          by_cases hle : Int32.ofNat n ≤ p2
          · rw [if_pos hle, if_pos hle]
          · rw [if_neg hle, if_neg hle, chk_t (in6 ha)]
        refine (e9 (fun x9 => chk (inb (Int32.ofNat a) 6) (chk (inb (Int32.ofNat a) 6) (some (0, jset (jset SM 358 0 0) 362 a x9 362 a, jset (jset SM 358 0 0) 362 a x9))))).trans ?_
        rw [chk_t (in6 ha), chk_t (in6 ha), jset_at]
      · rw [jset_ne (by omega), jset_at]
      · refine inv_dr h (fun q j hq9 => ?_) (fun q j hq9 => ?_) (fun a9 ha9 => ?_)
        · have := hq9 a (by omega)
          rw [jset_ne (by omega)]
        · rw [jset_ne (by omega), jset_ne (by omega)]
        · by_cases haa : a9 = a
          · subst haa
            refine ⟨m, by omega, jset_at, jset_at, fun j hj => ?_⟩
            rw [jset_ne (by omega), jset_ne (by omega), jset_ne (by omega)]
            exact e3 j hj
          · obtain ⟨n9, hn9, g1, g2, g3⟩ := h.2.1 a9 ha9
            refine ⟨n9, hn9, ?_, ?_, fun j hj => ?_⟩
            · rw [jset_ne (by omega)]
              exact g1
            · rw [jset_ne (by omega), jset_ne (by omega)]
              exact g2
            · rw [jset_ne (by omega), jset_ne (by omega), jset_ne (by omega)]
              exact g3 j hj
    · refine AGv_1 (v := 0) (v2 := 0) (S1 := S) (SM1 := jset SM 358 0 1) ?_ ?_ jset_at (by decide) (inv_thr h)
      · unfold f_X10_erase
        rw [f_aud_y hp, jbind_s, if_neg hq]
      · unfold f_X11_erase joinK letE
        rw [m_audience, jbin0_s, rg_1 hp]
        dsimp only
        rw [if_neg (by decide), if_pos (Int32.not_le.mp hq), m_w1, jbin0_s, if_pos rfl]
  · refine AGv_1 (v := 0) (v2 := 0) (S1 := S) (SM1 := jset SM 358 0 1) ?_ ?_ jset_at (by decide) (inv_thr h)
    · unfold f_X10_erase
      rw [f_aud_n hp, jbind_t]
    · unfold f_X11_erase joinK letE
      rw [m_audience, jbin0_s, rg_0 hp]
      dsimp only
      rw [if_pos rfl, m_w1, jbin0_s, if_pos rfl]
end DRF
