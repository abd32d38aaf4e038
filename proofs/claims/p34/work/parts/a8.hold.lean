section HLD
def hbOk (k : Nat) : Bool := (decide ((64 : Int32) ≤ Int32.ofNat k) == bt (Int32.ofNat k) 6) && (bt (Int32.ofNat k) 6 || decide (Int32.ofNat k + 64 = wb (Int32.ofNat k) 6 1)) && (!bt (Int32.ofNat k) 6 || decide (Int32.ofNat k - 64 = wb (Int32.ofNat k) 6 0))
theorem hbOk_all : ((List.range 128).all fun k => hbOk k) = true := by decide +kernel
theorem hold_bits {x : Int32} (h : bits 7 x) : ((64 : Int32) ≤ x ↔ bt x 6 = true) ∧ (bt x 6 = false → x + 64 = wb x 6 1) ∧ (bt x 6 = true → x - 64 = wb x 6 0) := by
  obtain ⟨k, hk, rfl⟩ := bits_nat (by omega) h
  have := List.all_eq_true.mp hbOk_all k (List.mem_range.mpr hk)
  unfold hbOk at this
  simp only [Bool.and_eq_true, beq_iff_eq, Bool.or_eq_true, decide_eq_true_eq, Bool.not_eq_true'] at this
  obtain ⟨⟨h1, h2⟩, h3⟩ := this
  refine ⟨?_, fun h9 => ?_, fun h9 => ?_⟩
  · rw [← h1, decide_eq_true_eq]
  · rcases h2 with h2 | h2
    · rw [h9] at h2
      exact absurd h2 (by decide)
    · exact h2
  · rcases h3 with h3 | h3
    · rw [h9] at h3
      exact absurd h3 (by decide)
    · exact h3
theorem hb6_0 {x : Int32} (h : bt x 6 = false) : hb x 6 = 0 := by
  rw [show (6 : Int32) = Int32.ofNat 6 from rfl, hb_bt (by omega), h]
  rfl
theorem hb6_1 {x : Int32} (h : bt x 6 = true) : ¬ hb x 6 = 0 := by
  rw [show (6 : Int32) = Int32.ofNat 6 from rfl, hb_bt (by omega), h]
  decide
theorem IP1_c2 {b b1 p : Nat} {S SM S1 SM1 : jS} (h : IP1 b p S SM) (hS : ∀ r j, inP r j → S1 (b1 + r) j = S (b + r) j) (h1 : ∀ t, t < 6 → SM1 381 (20 * t + p) = SM 381 (20 * t + p)) (h2 : ∀ t, t < 6 → ∀ f, f < 8 → SM1 382 (160 * t + (8 * p + f)) = SM 382 (160 * t + (8 * p + f))) (h3 : ∀ q f, 384 ≤ q → q ≤ 386 → f < 8 → SM1 q (8 * p + f) = SM q (8 * p + f)) (h4 : ∀ t, t < 6 → SM1 383 t = 0 → SM 383 t = 0) : IP1 b1 p S1 SM1 := by
  obtain ⟨a1, a2, a3⟩ := h
  refine ⟨fun t ht => ?_, fun t ht f hf => ?_, fun f hf => ?_⟩
  · rw [hS 1 t (in_1 ht), h1 t ht]
    exact a1 t ht
  · rw [hS (3 + t) f (in_3 ht hf), h2 t ht f hf]
    exact a2 t ht f hf
  · rw [hS 9 f (in_9 hf), hS 10 f (in_10 hf), hS 11 f (in_11 hf), h3 386 f (by omega) (by omega) hf, h3 384 f (by omega) (by omega) hf, h3 385 f (by omega) (by omega) hf]
    obtain ⟨c1, c2, c3, c4, c5⟩ := a3 f hf
    exact ⟨c1, c2, c3, c4, fun t ht h9 => c5 t ht (h4 t ht h9)⟩
theorem f_log {S SM : jS} {L : jLg} (h : InvL S L SM) {S2 : jS} : (f_X10_checkLog S2 L = if L.length < 400 then some (0, 0, ()) else some (2, 0, ())) ∧ (SM 358 30 = 400 ↔ ¬ L.length < 400) := by
  obtain ⟨l1, l2, _⟩ := h.2.2.2.2.2.2.2
  refine ⟨?_, ?_⟩
  · unfold f_X10_checkLog
    have e : (Int32.ofNat L.length < (400 : Int32)) = (L.length < 400) := n32_lt' (n := L.length) (i := 400) (by omega) (by omega)
    simp only [e]
  · rw [l2]
    have e : (Int32.ofNat L.length = (400 : Int32)) = (L.length = 400) := n32_eq (b := 400) (by omega) (by omega)
    rw [e]
    omega
theorem IP1_pers {S SM : jS} {L : jLg} (h : InvL S L SM) {p : Nat} (hp : p < 20) : IP1 0 p (getP (82 + 12 * p) S) SM := IP1_P.mp (h.2.2.2.2.2.2.1 p hp)
theorem n32_ne {a b : Nat} (ha : a ≤ 100000) (hb : b ≤ 100000) (h : a ≠ b) : Int32.ofNat a ≠ Int32.ofNat b := fun e => h (n32_inj ha hb e)
/-- a trial is as it was -/
theorem ITr_same {S SM S1 SM1 : jS} (h : ITr S SM) (hS : ∀ q, 346 ≤ q → q ≤ 357 → S1 q = S q) (hM : ∀ q j, (378 ≤ q ∧ q ≤ 380) ∨ q = 383 → SM1 q j = SM q j) : ITr S1 SM1 := ITr_c h (fun q j a b => by rw [hS q a b]) hM
/-- 24: hold -/
theorem ag_24 {S SM : jS} {L : jLg} (h : InvL S L SM) : ∀ p1 p2, AGv (f_X10_hold S L p1 p2) 1 2 0 (f_X11_hold SM p1 p2) (fun S1 SM1 => InvL S1.1 S1.2 SM1) := fun p1 p2 => by
  by_cases hall : (0 ≤ p1 ∧ p1 ≤ 19) ∧ (0 ≤ p2 ∧ p2 ≤ 7)
  · obtain ⟨hp, hq⟩ := hall
    obtain ⟨p, hp9, rfl⟩ := n32_rg (n := 19) (by omega) hp
    obtain ⟨f, hf, rfl⟩ := n32_rg (n := 7) (by omega) hq
    obtain ⟨g1, g2, g3, g4, g5⟩ := (h.2.2.2.2.2.2.1 p (by omega)).2.2 f (by omega)
    obtain ⟨hlog, hlogM⟩ := f_log h (S2 := S)
    obtain ⟨hb1, hb2, _⟩ := hold_bits g4
    have eM : f_X11_hold SM (Int32.ofNat p) (Int32.ofNat f) = if bt (SM 384 (8 * p + f)) 6 = false ∧ L.length < 400 then jbin0 (f_X11_findViews (jset SM 358 0 0)) (fun _ S17 => some ((0 : Nat), S17 376 (8 * p + f), jset (jset (jset S17 385 (8 * p + f) (S17 376 (8 * p + f))) 384 (8 * p + f) (S17 384 (8 * p + f) + 64)) 358 30 (S17 358 30 + 1))) else some (0, 0, jset SM 358 0 2) := by
      unfold f_X11_hold joinK letE
      rw [m_person, jbin0_s, rg_1 hp]
      dsimp only
      rw [if_neg (by decide), m_flag, jbin0_s, rg_1 hq, if_neg (by decide), if_neg (by decide), if_neg (by decide), n32_8, n32_c (show 8 * p + f ≤ 1000 by omega), chk_t (n32_inb (by omega) (by omega))]
      by_cases hc : bt (SM 384 (8 * p + f)) 6 = false ∧ L.length < 400
      · rw [if_pos hc, if_neg (fun h9 => by rw [hb1.mp h9] at hc; exact absurd hc.1 (by decide)), if_neg (fun h9 => hlogM.mp h9 hc.2), m_w0, jbin0_s, if_neg (by decide)]
        refine congrArg (jbin0 _) (funext fun _ => funext fun S17 => ?_)
        simp only [chk_t (n32_inb (show 8 * p + f ≤ 100000 by omega) (show 8 * p + f < 160 by omega)), n32_c (show 8 * p + f ≤ 1000 by omega)]
        rw [jset_ne (q := 384) (by omega), jset_ne (q := 358) (by omega), jset_ne (q := 358) (by omega), jset_ne (q := 385) (k := 358) (by omega), jset_ne (q := 385) (k := 384) (by omega), jset_at]
      · rw [if_neg hc]
        by_cases h64 : (64 : Int32) ≤ SM 384 (8 * p + f)
        · rw [if_pos h64, m_w2, jbin0_s, if_pos rfl]
        · rw [if_neg h64, if_pos (hlogM.mpr fun h9 => hc ⟨by simpa using fun h8 => h64 (hb1.mpr h8), h9⟩), m_w2, jbin0_s, if_pos rfl]
    by_cases hc : bt (SM 384 (8 * p + f)) 6 = false ∧ L.length < 400
    · obtain ⟨G, eg, hfG, hg0, hvG, _⟩ := (inv_views (inv_thr (c := 0) h)).2.1
      have hfG : frM G SM := frM_t hfG frM_thrown
      have hv : G 376 (8 * p + f) = vwM SM p f := by rw [hvG p (by omega) f (by omega), vwM_thr h (by omega) (by omega)]
      obtain ⟨S4, ev, hf4, _⟩ := f_viewNow h (fun _ _ => rfl) hp9 hf
      have hl30 : G 358 30 = Int32.ofNat L.length := by rw [hfG 358 30 (by omega)]; exact h.2.2.2.2.2.2.2.2.1
      obtain ⟨S1, ee, _, _, hI⟩ := inv_enter (S2 := S4) (SM1 := jset (jset (jset G 385 (8 * p + f) (G 376 (8 * p + f))) 384 (8 * p + f) (G 384 (8 * p + f) + 64)) 358 30 (G 358 30 + 1)) (e := ent5 2 (Int32.ofNat p) (Int32.ofNat f) (-1) (vwM SM p f)) h (fun q _ h80 => hf4 q h80) ⟨Or.inr (Or.inr (Or.inl ⟨rfl, f, by omega, rfl⟩)), fun _ => vwM_rg h (by omega) (by omega)⟩ hc.2 (fun q j hq => by rw [jset_ne (by omega), jset_ne (by omega), jset_ne (by omega)]; exact hfG q j (by omega)) (by rw [jset_at, hl30, n32_succ]) (ITr_same h.2.2.2.2.2.1 (fun q _ _ => hf4 q (by omega)) (fun q j hq => by rw [jset_ne (by omega), jset_ne (by omega), jset_ne (by omega)]; exact hfG q j (by omega))) (fun p9 hp99 => by
        have e1 : ent5 2 (Int32.ofNat p) (Int32.ofNat f) (-1) (vwM SM p f) 1 = Int32.ofNat p := rfl
        have hold := IP1_pers h hp99
        by_cases hpp : p9 = p
        · rw [hpp, if_pos (Or.inr e1)]
          rw [hpp] at hold
          have htk : ∀ r j, tk (ent5 2 (Int32.ofNat p) (Int32.ofNat f) (-1) (vwM SM p f)) (getP (82 + 12 * p) S) r j = (if r = 10 ∧ j = f then wb (getP (82 + 12 * p) S 10 j) 6 1 else if r = 11 ∧ j = f then (if getP (82 + 12 * p) S 10 j = 0 then vwM SM p f else getP (82 + 12 * p) S 11 j) else getP (82 + 12 * p) S r j) := fun r j => by
            have cf : (ent5 2 (Int32.ofNat p) (Int32.ofNat f) (-1) (vwM SM p f) 2).toNatClampNeg = f := n32_c (k := f) (by omega)
            unfold tk
            rw [if_neg (show ¬ (ent5 2 (Int32.ofNat p) (Int32.ofNat f) (-1) (vwM SM p f) 0 = 0 ∨ ent5 2 (Int32.ofNat p) (Int32.ofNat f) (-1) (vwM SM p f) 0 = 1) from fun h => h.elim (fun h => absurd (show (2 : Int32) = 0 from h) (by decide)) (fun h => absurd (show (2 : Int32) = 1 from h) (by decide))), if_pos (show ent5 2 (Int32.ofNat p) (Int32.ofNat f) (-1) (vwM SM p f) 0 = 2 from rfl), cf]
            rfl
          obtain ⟨o1, o2, o3⟩ := hold
          refine ⟨fun t ht => ?_, fun t ht f9 hf9 => ?_, fun f9 hf9 => ?_⟩
          · rw [htk, if_neg (by omega), if_neg (by omega), jset_ne (by omega), jset_ne (by omega), jset_ne (by omega), hfG 381 _ (by omega)]
            exact o1 t ht
          · rw [htk, if_neg (by omega), if_neg (by omega), jset_ne (by omega), jset_ne (by omega), jset_ne (by omega), hfG 382 _ (by omega)]
            exact o2 t ht f9 hf9
          · obtain ⟨c1, c2, c3, c4, c5⟩ := o3 f9 hf9
            rw [Nat.zero_add] at c1 c2 c3
            have m386 : jset (jset (jset G 385 (8 * p + f) (G 376 (8 * p + f))) 384 (8 * p + f) (G 384 (8 * p + f) + 64)) 358 30 (G 358 30 + 1) 386 (8 * p + f9) = SM 386 (8 * p + f9) := by rw [jset_ne (by omega), jset_ne (by omega), jset_ne (by omega), hfG 386 _ (by omega)]
            have m384 : jset (jset (jset G 385 (8 * p + f) (G 376 (8 * p + f))) 384 (8 * p + f) (G 384 (8 * p + f) + 64)) 358 30 (G 358 30 + 1) 384 (8 * p + f9) = if f9 = f then wb (SM 384 (8 * p + f)) 6 1 else SM 384 (8 * p + f9) := by
              rw [jset_ne (by omega), jset_if]
              by_cases hff : f9 = f
              · rw [if_pos ⟨rfl, by omega⟩, if_pos hff, hfG 384 _ (by omega)]
                exact hb2 hc.1
              · rw [if_neg (by omega), if_neg hff, jset_ne (by omega), hfG 384 _ (by omega)]
            have m385 : jset (jset (jset G 385 (8 * p + f) (G 376 (8 * p + f))) 384 (8 * p + f) (G 384 (8 * p + f) + 64)) 358 30 (G 358 30 + 1) 385 (8 * p + f9) = if f9 = f then vwM SM p f else SM 385 (8 * p + f9) := by
              rw [jset_ne (by omega), jset_ne (by omega), jset_if]
              by_cases hff : f9 = f
              · rw [if_pos ⟨rfl, by omega⟩, if_pos hff, hv]
              · rw [if_neg (by omega), if_neg hff, hfG 385 _ (by omega)]
            have m383 : ∀ t, jset (jset (jset G 385 (8 * p + f) (G 376 (8 * p + f))) 384 (8 * p + f) (G 384 (8 * p + f) + 64)) 358 30 (G 358 30 + 1) 383 t = SM 383 t := fun t => by rw [jset_ne (by omega), jset_ne (by omega), jset_ne (by omega), hfG 383 _ (by omega)]
            rw [m386, m384, m385, Nat.zero_add, Nat.zero_add, Nat.zero_add, htk, htk, htk, if_neg (show ¬ (9 = 10 ∧ f9 = f) by omega), if_neg (show ¬ (9 = 11 ∧ f9 = f) by omega), if_neg (show ¬ (11 = 10 ∧ f9 = f) by omega)]
            by_cases hff : f9 = f
            · rw [if_pos (show 10 = 10 ∧ f9 = f from ⟨rfl, hff⟩), if_pos (show 11 = 11 ∧ f9 = f from ⟨rfl, hff⟩), if_pos hff, if_pos hff, c2, c3, hff]
              refine ⟨by rw [← hff]; exact c1, rfl, ?_, bits_wb g4 (show 6 < 7 by omega) (by omega), fun t ht h9 => ?_⟩
              · by_cases h0 : SM 384 (8 * p + f) = 0
                · rw [if_pos h0]
                · rw [if_neg h0]
                  obtain ⟨D, _, eD⟩ := (inv_views h).2.2 p (by omega) f (by omega)
                  rw [eD]
                  unfold stepV
                  rw [if_neg h0]
              · rw [m383] at h9
                show bt (wb (SM 384 (8 * p + f)) (Int32.ofNat 6) 1) t = false
                rw [wb_bt (by omega) (by omega), if_neg (by omega)]
                exact g5 t ht h9
            · rw [if_neg (show ¬ (10 = 10 ∧ f9 = f) from fun h => hff h.2), if_neg (show ¬ (10 = 11 ∧ f9 = f) by omega), if_neg (show ¬ (11 = 11 ∧ f9 = f) from fun h => hff h.2), if_neg hff, if_neg hff]
              exact ⟨c1, c2, c3, c4, fun t ht h9 => c5 t ht (by rw [← m383 t]; exact h9)⟩
        · have hne : ¬ (ent5 2 (Int32.ofNat p) (Int32.ofNat f) (-1) (vwM SM p f) 1 = -1 ∨ ent5 2 (Int32.ofNat p) (Int32.ofNat f) (-1) (vwM SM p f) 1 = Int32.ofNat p9) := by
            rw [e1]
            exact fun h => h.elim (fun h => n32_m1 (by omega) h) (fun h => hpp (n32_inj (by omega) (by omega) h).symm)
          rw [if_neg hne]
          exact IP1_c2 hold (fun _ _ _ => rfl) (fun t ht => by rw [jset_ne (by omega), jset_ne (by omega), jset_ne (by omega), hfG 381 _ (by omega)]) (fun t ht f9 hf9 => by rw [jset_ne (by omega), jset_ne (by omega), jset_ne (by omega), hfG 382 _ (by omega)]) (fun q f9 h1 h2 hf9 => by rw [jset_ne (by omega), jset_ne (by omega), jset_ne (by omega), hfG q _ (by omega)]) (fun t ht h9 => by rw [jset_ne (by omega), jset_ne (by omega), jset_ne (by omega), hfG 383 _ (by omega)] at h9; exact h9))
      refine AGv_ok (v := vwM SM p f) (S1 := (S1, L ++ [ent5 2 (Int32.ofNat p) (Int32.ofNat f) (-1) (vwM SM p f)])) (SM1 := jset (jset (jset G 385 (8 * p + f) (G 376 (8 * p + f))) 384 (8 * p + f) (G 384 (8 * p + f) + 64)) 358 30 (G 358 30 + 1)) ?_ ?_ (by rw [jset_ne (by omega), jset_ne (by omega), jset_ne (by omega), hg0, jset_at]) hI (vwM_big h (by omega) (by omega))
      · unfold f_X10_hold
        rw [f_per_y hp, jbind_s, f_flg_y hq, jbind_s, chk_t (in20 hp9), chk_t (in8 hf), n32_c (show p ≤ 1000 by omega), n32_c (show f ≤ 1000 by omega), g2, f_hasBit, jbin0_s, if_pos (hb6_0 hc.1), hlog, if_pos hc.2, jbind_s, ev, jbin0_s, ee, jbin0_s]
      · rw [eM, if_pos hc, eg, jbin0_s, hv]
    · refine AGv_2 (v := 0) (v2 := 0) (S1 := (S, L)) (SM1 := jset SM 358 0 2) ?_ (by rw [eM, if_neg hc]) jset_at (by decide) (inv_thr h)
      unfold f_X10_hold
      rw [f_per_y hp, jbind_s, f_flg_y hq, jbind_s, chk_t (in20 hp9), chk_t (in8 hf), n32_c (show p ≤ 1000 by omega), n32_c (show f ≤ 1000 by omega), g2, f_hasBit, jbin0_s]
      cases hb6 : bt (SM 384 (8 * p + f)) 6
      · rw [if_pos (hb6_0 hb6), hlog, if_neg (fun h9 => hc ⟨hb6, h9⟩)]
        rfl
      · rw [if_neg (hb6_1 hb6)]
  · refine AGv_1 (v := 0) (v2 := 0) (S1 := (S, L)) (SM1 := jset SM 358 0 1) ?_ ?_ jset_at (by decide) (inv_thr h)
    · unfold f_X10_hold
      by_cases hp : 0 ≤ p1 ∧ p1 ≤ 19
      · rw [f_per_y hp, jbind_s, f_flg_n (fun hq => hall ⟨hp, hq⟩), jbind_t]
      · rw [f_per_n hp, jbind_t]
    · unfold f_X11_hold joinK letE
      rw [m_person, jbin0_s]
      dsimp only
      by_cases hp : 0 ≤ p1 ∧ p1 ≤ 19
      · rw [rg_1 hp, if_neg (by decide), m_flag, jbin0_s, rg_0 (fun hq => hall ⟨hp, hq⟩), if_pos rfl, if_pos rfl, if_pos rfl, m_w1, jbin0_s, if_pos rfl]
      · rw [rg_0 hp, if_pos rfl, if_pos rfl, if_pos rfl, m_w1, jbin0_s, if_pos rfl]
end HLD
