section TRL
theorem n32_dec {k : Nat} (hk : k ≤ 100000) : (Int32.ofNat k - 1 = -1) = (k = 0) := by
  refine propext ⟨fun h => ?_, fun h => by rw [h]; rfl⟩
  rcases Nat.eq_zero_or_pos k with h0 | h0
  · exact h0
  · rw [n32_pred h0] at h
    exact absurd h (n32_m1 (by omega))
/-- the arm of a person -/
def armV (st k : Nat) (sh : Nat → Nat) (p s : Nat) : Int32 := if st ≠ 0 then Int32.ofNat (st - 1) else if k ≠ 0 then Int32.ofNat (k - 1) else Int32.ofNat (if ssum sh 4 = 0 then 0 else srch sh (drw p s (ssum sh 4)) 3 0)
theorem armV_le {st k : Nat} {sh : Nat → Nat} {p s : Nat} (h : st ≤ 4) (h1 : k ≤ 4) : ∃ m, m ≤ 3 ∧ armV st k sh p s = Int32.ofNat m := by
  unfold armV
  by_cases a : st ≠ 0
  · rw [if_pos a]
    exact ⟨st - 1, by omega, rfl⟩
  · rw [if_neg a]
    by_cases b : k ≠ 0
    · rw [if_pos b]
      exact ⟨k - 1, by omega, rfl⟩
    · rw [if_neg b]
      refine ⟨_, ?_, rfl⟩
      by_cases c : ssum sh 4 = 0
      · rw [if_pos c]
        omega
      · rw [if_neg c]
        exact srch_le 3 0
theorem f_armFor {S : jS} {b p s k st : Nat} {sh : Nat → Nat} (hp : p < 20) (hs : s ≤ 1000) (hsh : ∀ v, v < 4 → S (b + 1) v = Int32.ofNat (sh v) ∧ sh v ≤ 100) (hsa : S b 1 = Int32.ofNat s) (hst : st ≤ 4) (hst9 : S b 2 = Int32.ofNat st - 1) (hk : k ≤ 4) :
    f_X9_armFor S b (Int32.ofNat p) (Int32.ofNat k - 1) = some (0, armV st k sh p s, ()) := by
  unfold f_X9_armFor joinK armV
  rw [hst9]
  simp only [n32_dec (show st ≤ 100000 by omega), n32_dec (show k ≤ 100000 by omega)]
  by_cases h0 : st = 0
  · rw [if_pos h0, if_neg (show ¬ st ≠ 0 by omega)]
    by_cases h1 : k = 0
    · rw [if_pos h1, if_neg (show ¬ k ≠ 0 by omega), f_draw hp hs hsh hsa, jbin0_s]
    · rw [if_neg h1, if_pos (show k ≠ 0 from h1), n32_pred (by omega)]
  · rw [if_neg h0, if_pos (show st ≠ 0 from h0), n32_pred (by omega)]
/-- both find the same arm -/
theorem arm_eq {S SM : jS} {t p k : Nat} (h : ITr S SM) (ht : t < 6) (hp : p < 20) (hk : k ≤ 4) (hk9 : SM 381 (20 * t + p) = Int32.ofNat k) :
    ∃ m, m ≤ 3 ∧ f_X9_armFor S (346 + 2 * t) (Int32.ofNat p) (Int32.ofNat k - 1) = some (0, Int32.ofNat m, ()) ∧ f_X11_armNow SM (Int32.ofNat t) (Int32.ofNat p) = some (0, Int32.ofNat m, ()) := by
  obtain ⟨e1, ⟨s, hs, e2⟩, ⟨st, hst, e3, e4⟩, _, _, h6⟩ := h t ht
  have hsh : ∃ sh : Nat → Nat, ∀ v, v < 4 → SM 378 (4 * t + v) = Int32.ofNat (sh v) ∧ sh v ≤ 100 ∧ S (347 + 2 * t) v = Int32.ofNat (sh v) := by
    obtain ⟨g0, s0, l0, q0⟩ := h6 0 (by omega)
    obtain ⟨g1, s1, l1, q1⟩ := h6 1 (by omega)
    obtain ⟨g2, s2, l2, q2⟩ := h6 2 (by omega)
    obtain ⟨g3, s3, l3, q3⟩ := h6 3 (by omega)
    refine ⟨fun v => if v = 0 then s0 else if v = 1 then s1 else if v = 2 then s2 else s3, fun v hv => ?_⟩
    have hv : v = 0 ∨ v = 1 ∨ v = 2 ∨ v = 3 := by omega
    rcases hv with rfl | rfl | rfl | rfl
    · exact ⟨q0, l0, g0.trans q0⟩
    · exact ⟨q1, l1, g1.trans q1⟩
    · exact ⟨q2, l2, g2.trans q2⟩
    · exact ⟨q3, l3, g3.trans q3⟩
  obtain ⟨sh, hsh⟩ := hsh
  obtain ⟨m, hm, em⟩ := armV_le (sh := sh) (p := p) (s := s) hst hk
  refine ⟨m, hm, ?_, ?_⟩
  · rw [← em]
    exact f_armFor hp hs (fun v hv => ⟨by rw [show 346 + 2 * t + 1 = 347 + 2 * t by omega]; exact (hsh v hv).2.2, (hsh v hv).2.1⟩) (e1.trans e2) hst e4 hk
  · rw [← em]
    exact m_armNow ht hp hs (fun v hv => ⟨(hsh v hv).1, (hsh v hv).2.1⟩) e2 hk hk9 hst e3
theorem inv_tr {S SM S1 SM1 : jS} {L : jLg} (h : InvL S L SM) (hS : ∀ q j, ¬ (346 ≤ q ∧ q ≤ 357) → S1 q j = S q j) (hM : ∀ q j, (q ≠ 378 ∧ q ≠ 379 ∧ q ≠ 380 ∧ ¬ (q = 358 ∧ j = 0)) → SM1 q j = SM q j) (hd : ITr S1 SM1) : InvL S1 L SM1 := by
  obtain ⟨h1, h2, h3, h4, h5, h6, h7, h8⟩ := h
  exact ⟨IPe_c h1 (fun q j _ _ => hS q j (by omega)) (fun q j _ _ => hM q j (by omega)), IDr_c h2 (fun a j ha => ⟨hS _ _ (by omega), hS _ _ (by omega)⟩) (fun q j _ _ => hM q j (by omega)),
    ITx_c h3 (fun q j _ _ => hS q j (by omega)) (fun a j ha => ⟨hS _ _ (by omega), hS _ _ (by omega)⟩) (fun q j _ _ => hM q j (by omega)), IFl_c h4 (fun q j _ _ => hS q j (by omega)) (fun q j _ _ => hM q j (by omega)),
    INe_c h5 (fun q j _ _ => hS q j (by omega)) (fun j => hM 375 j (by omega)), hd, IPa_c h7 (fun q j _ _ => hS q j (by omega)) (fun q j _ _ => hM q j (by omega)),
    ILo_c h8 (fun q j _ _ => hS q j (by omega)) (hM 358 30 (by omega))⟩
theorem f_armNow {S SM : jS} {L : jLg} (h : InvL S L SM) {t p : Nat} (ht : t ≤ 5) (hp : p ≤ 19) : ∃ m, m ≤ 3 ∧ f_X10_armNow S (Int32.ofNat t) (Int32.ofNat p) = some (0, Int32.ofNat m, ()) ∧ f_X11_armNow SM (Int32.ofNat t) (Int32.ofNat p) = some (0, Int32.ofNat m, ()) := by
  obtain ⟨k, hk, e1, e2⟩ := (h.2.2.2.2.2.2.1 p (by omega)).1 t (by omega)
  obtain ⟨m, hm, ec, em⟩ := arm_eq (p := p) h.2.2.2.2.2.1 (show t < 6 by omega) (by omega) hk e1
  refine ⟨m, hm, ?_, em⟩
  unfold f_X10_armNow
  rw [chk_t (in6 ht), chk_t (in20 hp), chk_t (in6 ht), n32_c (by omega), n32_c (by omega), show 82 + 12 * p + 1 = (82 + 12 * p) + 1 from rfl, e2, ec, jbin0_s]
/-- 22: arm -/
theorem ag_22 {S SM : jS} {L : jLg} (h : InvL S L SM) : ∀ p1 p2, AG (f_X10_arm S p1 p2) 1 0 0 (f_X11_arm SM p1 p2) (fun _ SM1 => InvL S L SM1) := fun p1 p2 => by
  by_cases hp : 0 ≤ p1 ∧ p1 ≤ 5
  · by_cases hq : 0 ≤ p2 ∧ p2 ≤ 19
    · obtain ⟨t, ht, rfl⟩ := n32_rg (n := 5) (by omega) hp
      obtain ⟨p, hp9, rfl⟩ := n32_rg (n := 19) (by omega) hq
      obtain ⟨m, hm, ec, _⟩ := f_armNow h ht hp9
      obtain ⟨m1, hm1, ec1, em1⟩ := f_armNow (inv_thr (c := 0) h) ht hp9
      have hmm : m = m1 := by
        rw [ec] at ec1
        have := congrArg (fun o : Option (jR Unit) => o.map fun r => r.2.1) ec1
        exact n32_inj (by omega) (by omega) (Option.some.inj this)
      subst hmm
      refine AG_ok (v := Int32.ofNat m) (S1 := ()) (SM1 := jset SM 358 0 0) ?_ ?_ jset_at (inv_thr h)
      · unfold f_X10_arm
        rw [f_tri_y hp, jbind_s, f_per_y hq, jbind_s, ec, jbin0_s]
      · unfold f_X11_arm joinK
        rw [m_trial, jbin0_s, rg_1 hp]
        dsimp only
        rw [if_neg (by decide), m_person, jbin0_s, rg_1 hq, if_neg (by decide), m_w0, jbin0_s, if_neg (by decide), em1, jbin0_s]
    · refine AG_1 (v := 0) (v2 := 0) (S1 := ()) (SM1 := jset SM 358 0 1) ?_ ?_ jset_at (by decide) (inv_thr h)
      · unfold f_X10_arm
        rw [f_tri_y hp, jbind_s, f_per_n hq, jbind_t]
      · unfold f_X11_arm joinK
        rw [m_trial, jbin0_s, rg_1 hp]
        dsimp only
        rw [if_neg (by decide), m_person, jbin0_s, rg_0 hq, if_pos rfl, m_w1, jbin0_s, if_pos rfl]
  · refine AG_1 (v := 0) (v2 := 0) (S1 := ()) (SM1 := jset SM 358 0 1) ?_ ?_ jset_at (by decide) (inv_thr h)
    · unfold f_X10_arm
      rw [f_tri_n hp, jbind_t]
    · unfold f_X11_arm joinK
      rw [m_trial, jbin0_s, rg_0 hp]
      dsimp only
      rw [if_pos rfl, m_w1, jbin0_s, if_pos rfl]
theorem f_nh {S SM : jS} {L : jLg} (h : InvL S L SM) {t : Nat} (ht : t ≤ 5) : f_X10_checkNotHeld S (Int32.ofNat t) = if SM 383 t = 0 then some (0, 0, ()) else some (2, 0, ()) := by
  obtain ⟨_, _, _, e, _⟩ := h.2.2.2.2.2.1 t (by omega)
  unfold f_X10_checkNotHeld
  rw [chk_t (in6 ht), n32_c (by omega), e]
/-- 19: setSalt -/
theorem ag_19 {S SM : jS} {L : jLg} (h : InvL S L SM) : ∀ p1 p2, AGv (f_X10_setSalt S p1 p2) 1 2 0 (f_X11_setSalt SM p1 p2) (fun S1 SM1 => InvL S1 L SM1) := fun p1 p2 => by
  by_cases hp : 0 ≤ p1 ∧ p1 ≤ 5
  · by_cases hq : 0 ≤ p2 ∧ p2 ≤ 1000
    · obtain ⟨t, ht, rfl⟩ := n32_rg (n := 5) (by omega) hp
      obtain ⟨s, hs, rfl⟩ := n32_rg (n := 1000) (by omega) hq
      by_cases hz : SM 383 t = 0
      · refine AGv_ok (v := SM 379 t) (S1 := jset S (346 + 2 * t) 1 (Int32.ofNat s)) (SM1 := jset (jset SM 358 0 0) 379 t (Int32.ofNat s)) ?_ ?_ ?_ ?_ (by obtain ⟨_, ⟨s9, hs9, e9⟩, _⟩ := h.2.2.2.2.2.1 t (by omega); rw [e9]; exact n32_big (by omega))
        · unfold f_X10_setSalt letE
          dsimp only
          rw [f_tri_y hp, jbind_s, f_rng_y hq, jbind_s, f_nh h ht, if_pos hz, jbind_s, chk_t (in6 ht), chk_t (in6 ht), n32_c (by omega), (h.2.2.2.2.2.1 t (by omega)).1]
        · unfold f_X11_setSalt joinK letE
          rw [m_trial, jbin0_s, rg_1 hp]
          dsimp only
          rw [if_neg (by decide), m_in, jbin0_s, rg_1 hq, if_neg (by decide), if_neg (by decide), chk_t (in6 ht), n32_c (show t ≤ 1000 by omega), if_pos hz, m_w0, jbin0_s, if_neg (by decide), chk_t (in6 ht), chk_t (in6 ht), jset_ne (by omega)]
        · rw [jset_ne (by omega), jset_at]
        · refine inv_tr h (fun q j hq => jset_ne (by omega)) (fun q j hq => by rw [jset_ne (by omega), jset_ne (by omega)]) (fun t9 ht9 => ?_)
          obtain ⟨g1, g2, g3, g4, g5, g6⟩ := h.2.2.2.2.2.1 t9 ht9
          rw [jset_ne (q := 346 + 2 * t9) (j := 2) (by omega), jset_ne (q := 346 + 2 * t9) (j := 3) (by omega), jset_ne (q := 380) (by omega), jset_ne (q := 380) (by omega), jset_ne (q := 383) (by omega), jset_ne (q := 383) (by omega)]
          have e379 : jset (jset SM 358 0 0) 379 t (Int32.ofNat s) 379 t9 = if t9 = t then Int32.ofNat s else SM 379 t9 := by
            rw [jset_if]
            by_cases htt : t9 = t
            · rw [if_pos ⟨rfl, htt⟩, if_pos htt]
            · rw [if_neg (fun h => htt h.2), if_neg htt, jset_ne (by omega)]
          have e346 : jset S (346 + 2 * t) 1 (Int32.ofNat s) (346 + 2 * t9) 1 = if t9 = t then Int32.ofNat s else S (346 + 2 * t9) 1 := by
            rw [jset_if]
            by_cases htt : t9 = t
            · rw [if_pos ⟨by omega, rfl⟩, if_pos htt]
            · rw [if_neg (by omega), if_neg htt]
          rw [e379, e346]
          refine ⟨?_, ?_, g3, g4, g5, fun v hv => ?_⟩
          · by_cases htt : t9 = t
            · rw [if_pos htt, if_pos htt]
            · rw [if_neg htt, if_neg htt]
              exact g1
          · by_cases htt : t9 = t
            · rw [if_pos htt]
              exact ⟨s, hs, rfl⟩
            · rw [if_neg htt]
              exact g2
          · rw [jset_ne (by omega), jset_ne (by omega), jset_ne (by omega)]
            exact g6 v hv
      · refine AGv_2 (v := 0) (v2 := 0) (S1 := S) (SM1 := jset SM 358 0 2) ?_ ?_ jset_at (by decide) (inv_thr h)
        · unfold f_X10_setSalt letE
          rw [f_tri_y hp, jbind_s, f_rng_y hq, jbind_s, f_nh h ht, if_neg hz]
          rfl
        · unfold f_X11_setSalt joinK letE
          rw [m_trial, jbin0_s, rg_1 hp]
          dsimp only
          rw [if_neg (by decide), m_in, jbin0_s, rg_1 hq, if_neg (by decide), if_neg (by decide), chk_t (in6 ht), n32_c (show t ≤ 1000 by omega), if_neg hz, m_w2, jbin0_s, if_pos rfl]
    · refine AGv_1 (v := 0) (v2 := 0) (S1 := S) (SM1 := jset SM 358 0 1) ?_ ?_ jset_at (by decide) (inv_thr h)
      · unfold f_X10_setSalt
        rw [f_tri_y hp, jbind_s, f_rng_n hq, jbind_t]
      · unfold f_X11_setSalt joinK
        rw [m_trial, jbin0_s, rg_1 hp]
        dsimp only
        rw [if_neg (by decide), m_in, jbin0_s, rg_0 hq, if_pos rfl, if_pos rfl, m_w1, jbin0_s, if_pos rfl]
  · refine AGv_1 (v := 0) (v2 := 0) (S1 := S) (SM1 := jset SM 358 0 1) ?_ ?_ jset_at (by decide) (inv_thr h)
    · unfold f_X10_setSalt
      rw [f_tri_n hp, jbind_t]
    · unfold f_X11_setSalt joinK
      rw [m_trial, jbin0_s, rg_0 hp]
      dsimp only
      rw [if_pos rfl, if_pos rfl, m_w1, jbin0_s, if_pos rfl]
end TRL
