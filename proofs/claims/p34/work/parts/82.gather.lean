section GAT
theorem m_meets {c : Nat → Int32} {a n p : Nat} {S : jS} (hv : n = 0 ∨ Valid c n) (h : TxM S a n c) (hp : p < 20) :
    ∃ S1, f_X11_meets S (Int32.ofNat a) (Int32.ofNat p) = some (0, b2i (ev (tst (fun p k => S 359 (3 * p + k)) (S 360) (S 367) c n p) c n), S1) ∧ frE S1 S := by
  obtain ⟨ha, hn, hl, hc⟩ := h
  have c6 : inb (Int32.ofNat a) 6 = true := n32_inb (by omega) ha
  have ca : (Int32.ofNat a).toNatClampNeg = a := n32_cl (by omega)
  have hS : ∀ S4, frE S4 S → TxM S4 a n c := fun S4 h4 => ⟨ha, hn, (h4 364 a (by omega)).trans hl, fun j hj => (h4 363 _ (by omega)).trans (hc j hj)⟩
  suffices hw : wq (f_X11_meets S (Int32.ofNat a) (Int32.ofNat p)) (fun t v S1 => t = 0 ∧ v = b2i (ev (tst (fun p k => S 359 (3 * p + k)) (S 360) (S 367) c n p) c n) ∧ frE S1 S) by
    obtain ⟨t, v, S1, e, rfl, rfl, h3⟩ := wq_ex hw
    exact ⟨S1, e, h3⟩
  unfold f_X11_meets
  refine wq_chk (by decide) (wq_let (wq_chk (by decide) (wq_let ?_)))
  refine wq_for (fun (K : jS → Int32 → Int32 → Int32 → Option (jR jS)) i (a : jS × Int32 × Int32) => K a.1 a.2.1 a.2.2 i) n (fun i b => RM (tst (fun p k => S 359 (3 * p + k)) (S 360) (S 367) c n p) c i b.1 b.2.1 b.2.2 ∧ frE b.1 S) (fun rec i b hi hP ih => ?_) (fun rec b hP => ?_) n 0 1000 (jset (jset S 369 (0 : Int32).toNatClampNeg (vp_nar .boolean (0 : Int32))) 370 (0 : Int32).toNatClampNeg (vp_nar .boolean (1 : Int32)), 0, 0) (by omega) (by omega) ⟨⟨rfl, rfl, fun j hj => ?_, fun j hj => ?_⟩, fun q j hq => ?_⟩
  · obtain ⟨S4, x5, x6⟩ := b
    obtain ⟨hR, hf⟩ := hP
    dsimp only at hR hf ⊢
    have hT4 := hS S4 hf
    have hv : Valid c n := hv.resolve_left (by omega)
    have e1 : (Int32.ofNat n ≤ Int32.ofNat i) = (n ≤ i) := n32_le (by omega) (by omega)
    refine wq_chk c6 (wq_ite (fun h9 => ?_) (fun _ => ?_))
    · rw [ca, hT4.2.2.1, e1] at h9
      omega
    refine m_meets_step hv hT4 hi hp (fun hTi => ?_) hR (fun S1 y5 y6 h1 h2 => ih (S1, y5, y6) ⟨h1, fun q j hq => (h2 q j hq).trans (hf q j hq)⟩)
    rw [m_test hv hT4 hi hp hTi]
    have e359 : S4 359 = S 359 := funext fun j => hf 359 j (by omega)
    have e360 : S4 360 = S 360 := funext fun j => hf 360 j (by omega)
    have e367 : S4 367 = S 367 := funext fun j => hf 367 j (by omega)
    rw [e359, e360, e367]
  · obtain ⟨S4, x5, x6⟩ := b
    obtain ⟨hR, hf⟩ := hP
    dsimp only at hR hf ⊢
    have hT4 := hS S4 hf
    have el : S4 364 (Int32.ofNat a).toNatClampNeg = Int32.ofNat n := by rw [ca, hT4.2.2.1]
    refine wq_chk c6 (wq_ite (fun _ => ?_) (fun h9 => absurd (by rw [el]; exact Int32.le_refl _) h9))
    refine wq_chk c6 (wq_join fun k8 hk8 => wq_join fun k9 hk9 => ?_)
    have fin : ∀ v, v = ev (tst (fun p k => S 359 (3 * p + k)) (S 360) (S 367) c n p) c n → wq (k8 (b2i v)) (fun t v S1 => t = 0 ∧ v = b2i (ev (tst (fun p k => S 359 (3 * p + k)) (S 360) (S 367) c n p) c n) ∧ frE S1 S) := fun v hv9 => by
      rw [hk8]
      refine wq_chk b2i_isb ?_
      exact ⟨rfl, by rw [hv9], hf⟩
    have f0 : false = ev (tst (fun p k => S 359 (3 * p + k)) (S 360) (S 367) c n p) c n → wq (k9 ()) (fun t v S1 => t = 0 ∧ v = b2i (ev (tst (fun p k => S 359 (3 * p + k)) (S 360) (S 367) c n p) c n) ∧ frE S1 S) := by
      rw [hk9]
      exact fin false
    have e0 : (Int32.ofNat n ≤ (0 : Int32)) = (n ≤ 0) := n32_le (i := 0) (by omega) (by omega)
    rw [← el] at e0
    refine wq_ite (fun h0 => f0 ?_) (fun h0 => ?_)
    · rw [e0] at h0
      have : n = 0 := by omega
      subst this
      rfl
    · rw [e0] at h0
      have hv : Valid c n := hv.resolve_left (by omega)
      have hz : (rd c n).2 = 0 := hv.2.1
      obtain ⟨g1, g2⟩ := hR.2.2.1 0 (by omega)
      refine wq_chk (by decide) (wq_join fun k10 hk10 => ?_)
      have f1 : true = ev (tst (fun p k => S 359 (3 * p + k)) (S 360) (S 367) c n p) c n → wq (k10 ()) (fun t v S1 => t = 0 ∧ v = b2i (ev (tst (fun p k => S 359 (3 * p + k)) (S 360) (S 367) c n p) c n) ∧ frE S1 S) := by
        rw [hk10]
        exact fin true
      have gx : (S4 369 0 = 0) = ((em (tst (fun p k => S 359 (3 * p + k)) (S 360) (S 367) c n p) c n).2.1 0 = false) := by rw [g1, b2i_0]
      have gz : (S4 370 0 = 0) = ((em (tst (fun p k => S 359 (3 * p + k)) (S 360) (S 367) c n p) c n).2.2.1 0 = false) := by rw [g2, b2i_0]
      have hev : ev (tst (fun p k => S 359 (3 * p + k)) (S 360) (S 367) c n p) c n = ((em (tst (fun p k => S 359 (3 * p + k)) (S 360) (S 367) c n p) c n).2.1 0 || (em (tst (fun p k => S 359 (3 * p + k)) (S 360) (S 367) c n p) c n).2.2.1 0) := by
        unfold ev
        rw [decide_eq_true (show 0 < n by omega), Bool.true_and]
      refine wq_ite (fun hx => wq_chk (by decide) (wq_ite (fun hz => f0 (by rw [hev, Eq.mp gx hx, Eq.mp gz hz]; rfl)) (fun hz => f1 ?_))) (fun hx => f1 ?_)
      · have hz : ¬ (S4 370 0 = 0) := hz
        rw [gz] at hz
        rw [hev, show (em (tst (fun p k => S 359 (3 * p + k)) (S 360) (S 367) c n p) c n).2.2.1 0 = true by simpa using hz, Bool.or_true]
      · have hx : ¬ (S4 369 0 = 0) := hx
        rw [gx] at hx
        rw [hev, show (em (tst (fun p k => S 359 (3 * p + k)) (S 360) (S 367) c n p) c n).2.1 0 = true by simpa using hx, Bool.true_or]
  · have hj : j = 0 := by
      have : (rd c 0).2 = 0 := rfl
      omega
    subst hj
    dsimp only
    have e0 : (0 : Int32).toNatClampNeg = 0 := rfl
    rw [e0, jset_ne (q := 369) (by omega), jset_at, jset_at]
    exact ⟨rfl, rfl⟩
  · exact absurd hj (Nat.not_lt_zero _)
  · dsimp only
    rw [jset_ne (by omega), jset_ne (by omega)]
/-- all but the members and the rows of the reader -/
def frG (S1 S : jS) : Prop := ∀ q j, (q < 367 ∨ q = 368 ∨ 371 < q) → S1 q j = S q j
theorem tst_cong {ats : Nat → Nat → Int32} {tgs M M1 : Nat → Int32} {c : Nat → Int32} {n p i : Nat} (h : c i = 64 → M (dgt (c (i + 1))) = M1 (dgt (c (i + 1)))) : tst ats tgs M c n p i = tst ats tgs M1 c n p i := by
  unfold tst
  by_cases h64 : c i = 64
  · rw [if_pos h64, if_pos h64, h h64]
  · rw [if_neg h64, if_neg h64]
/-- one audience of a round -/
theorem m_gather1 {c : Nat → Int32} {a n : Nat} {S : jS} {rec4 : jS → Int32 → Option (jR jS)} {Q : Nat → Int32 → jS → Prop} (hv : n = 0 ∨ Valid c n) (h : TxM S a n c)
    (ih : ∀ S1 w, frE S1 S → bits 20 w → (∀ p, p < 20 → bt w p = ev (tst (fun p k => S 359 (3 * p + k)) (S 360) (S 367) c n p) c n) → wq (rec4 (jset S1 367 a w) (Int32.ofNat (a + 1))) Q) :
    wq (loopK (fun (rec8 : jS → Int32 → Int32 → Option (jR jS)) (S9 : jS) (x10 : Int32) (x11 : Int32) => (if (20 : Int32) ≤ x11 then chk (inb (Int32.ofNat a) 6) (letE (jset S9 367 (Int32.ofNat a).toNatClampNeg x10) fun S12 => letE (Int32.ofNat a + (1 : Int32)) fun x13 => rec4 S12 x13) else jbin0 (f_X11_meets S9 (Int32.ofNat a) x11) (fun v15 S16 => joinK (fun (x18 : Int32) => letE (x10 ||| x18) fun x19 => letE (x11 + (1 : Int32)) fun x20 => rec8 S16 x19 x20) (fun k17 => (if v15 = (0 : Int32) then k17 (0 : Int32) else k17 (((1 : Int32) <<< (x11 &&& 31)))))))) (fun _ _ _ => none) 1000 S (0 : Int32) (0 : Int32)) Q := by
  have ha := h.1
  refine wq_for (fun (K : jS → Int32 → Int32 → Option (jR jS)) i (b : jS × Int32) => K b.1 b.2 i) 20 (fun i b => frE b.1 S ∧ bits 20 b.2 ∧ ∀ p, p < 20 → bt b.2 p = (decide (p < i) && ev (tst (fun p k => S 359 (3 * p + k)) (S 360) (S 367) c n p) c n)) (fun rec i b hi hP ih1 => ?_) (fun rec b hP => ?_) 20 0 1000 (S, 0) (by omega) (by omega) ⟨fun _ _ _ => rfl, bits_0, fun p hp => by rw [bt_0]; simp⟩
  · obtain ⟨S9, w⟩ := b
    obtain ⟨hf, hb, hw⟩ := hP
    dsimp only at hf hb hw ⊢
    have e1 : ((20 : Int32) ≤ Int32.ofNat i) = (20 ≤ i) := n32_le (n := 20) (by omega) (by omega)
    simp only [e1]
    rw [if_neg (by omega)]
    have hT9 : TxM S9 a n c := ⟨ha, h.2.1, (hf 364 a (by omega)).trans h.2.2.1, fun j hj => (hf 363 _ (by omega)).trans (h.2.2.2 j hj)⟩
    obtain ⟨S1, e, hf1⟩ := m_meets hv hT9 hi
    have e359 : S9 359 = S 359 := funext fun j => hf 359 j (by omega)
    have e360 : S9 360 = S 360 := funext fun j => hf 360 j (by omega)
    have e367 : S9 367 = S 367 := funext fun j => hf 367 j (by omega)
    rw [e, jbin0_s, e359, e360, e367]
    refine wq_join fun k17 hk17 => ?_
    have fin : ∀ x, (∀ p, p < 32 → bt x p = (decide (p = i) && ev (tst (fun p k => S 359 (3 * p + k)) (S 360) (S 367) c n i) c n)) → wq (k17 x) Q := fun x hx => by
      rw [hk17]
      dsimp only
      rw [n32_succ]
      refine wq_let (wq_let (ih1 (S1, w ||| x) ⟨fun q j hq => (hf1 q j hq).trans (hf q j hq), ?_, fun p hp => ?_⟩))
      · refine bits_or hb fun j h1 h2 => ?_
        rw [hx j h2, decide_eq_false (by omega), Bool.false_and]
      · dsimp only
        rw [bt_or, hw p hp, hx p (by omega)]
        by_cases hpi : p = i
        · subst hpi
          simp
        · have : decide (p < i + 1) = decide (p < i) := by
            by_cases h9 : p < i
            · rw [decide_eq_true h9, decide_eq_true (by omega)]
            · rw [decide_eq_false h9, decide_eq_false (by omega)]
          rw [this, decide_eq_false hpi, Bool.false_and, Bool.or_false]
    simp only [b2i_0]
    refine wq_ite (fun hv9 => fin 0 fun p hp => ?_) (fun hv9 => fin _ fun p hp => ?_)
    · rw [hv9, Bool.and_false, bt_0]
    · rw [bt_shl (by omega) hp, show ev (tst (fun p k => S 359 (3 * p + k)) (S 360) (S 367) c n i) c n = true by simpa using hv9, Bool.and_true]
  · obtain ⟨S9, w⟩ := b
    obtain ⟨hf, hb, hw⟩ := hP
    dsimp only at hf hb hw ⊢
    rw [if_pos (by decide), n32_succ]
    refine wq_chk (n32_inb (by omega) ha) (wq_let (wq_let ?_))
    rw [n32_cl (by omega)]
    exact ih S9 w hf hb fun p hp => by
      rw [hw p hp, decide_eq_true hp, Bool.true_and]
/-- what gather finds: the one way in which all rules hold -/
theorem m_gather {cs : Nat → Nat → Int32} {ns pos : Nat → Nat} {M : Nat → Int32} {S : jS} (hv : ∀ a, a < 6 → ns a = 0 ∨ Valid (cs a) (ns a)) (h : ∀ a, a < 6 → TxM S a (ns a) (cs a))
    (hM : ∀ a, a < 6 → bits 20 (M a) ∧ ∀ p, p < 20 → bt (M a) p = ev (tst (fun p k => S 359 (3 * p + k)) (S 360) M (cs a) (ns a) p) (cs a) (ns a))
    (hpos : ∀ a, a < 6 → pos a < 6 ∧ ∀ i, i < ns a → cs a i = 64 → pos (dgt (cs a (i + 1))) < pos a) :
    ∃ S1, f_X11_gather S = some (0, 0, S1) ∧ frG S1 S ∧ ∀ a, a < 6 → S1 367 a = M a := by
  suffices hw : wq (f_X11_gather S) (fun t v S1 => t = 0 ∧ v = 0 ∧ frG S1 S ∧ ∀ a, a < 6 → S1 367 a = M a) by
    obtain ⟨t, v, S1, e, rfl, rfl, h3⟩ := wq_ex hw
    exact ⟨S1, e, h3⟩
  have hTx : ∀ S5, frG S5 S → ∀ a, a < 6 → TxM S5 a (ns a) (cs a) := fun S5 h5 a ha => by
    obtain ⟨h1, h2, h3, h4⟩ := h a ha
    exact ⟨h1, h2, (h5 364 a (by omega)).trans h3, fun j hj => (h5 363 _ (by omega)).trans (h4 j hj)⟩
  unfold f_X11_gather
  refine wq_for (fun (K : jS → Int32 → Option (jR jS)) i (b : jS) => K b i) 6 (fun r b => frG b S ∧ ∀ a, a < 6 → pos a < r → b 367 a = M a) (fun rec1 r S2 hr hP ih1 => ?_) (fun rec1 S2 hP => ?_) 6 0 1000 S (by omega) (by omega) ⟨fun _ _ _ => rfl, fun a _ h9 => absurd h9 (Nat.not_lt_zero _)⟩
  · have e1 : ((6 : Int32) ≤ Int32.ofNat r) = (6 ≤ r) := n32_le (n := 6) (by omega) (by omega)
    simp only [e1]
    rw [if_neg (by omega)]
    refine wq_for (fun (K : jS → Int32 → Option (jR jS)) i (b : jS) => K b i) 6 (fun o b => frG b S ∧ (∀ a, a < 6 → pos a < r → b 367 a = M a) ∧ ∀ a, a < o → pos a ≤ r → b 367 a = M a) (fun rec4 a S5 ha hP5 ih4 => ?_) (fun rec4 S5 hP5 => ?_) 6 0 1000 S2 (by omega) (by omega) ⟨hP.1, hP.2, fun a h9 => absurd h9 (Nat.not_lt_zero _)⟩
    · have e2 : ((6 : Int32) ≤ Int32.ofNat a) = (6 ≤ a) := n32_le (n := 6) (by omega) (by omega)
      simp only [e2]
      rw [if_neg (by omega)]
      refine m_gather1 (hv a ha) (hTx S5 hP5.1 a ha) (fun S1 w hf hb hw => ?_)
      have e359 : S5 359 = S 359 := funext fun j => hP5.1 359 j (by omega)
      have e360 : S5 360 = S 360 := funext fun j => hP5.1 360 j (by omega)
      rw [e359, e360] at hw
      have hwM : pos a ≤ r → w = M a := fun hpa => by
        refine bits_ext hb (hM a ha).1 fun p hp => ?_
        rw [hw p hp, (hM a ha).2 p hp]
        refine ev_cong (fun _ _ => rfl) fun i hi _ => tst_cong fun h64 => ?_
        have hva : Valid (cs a) (ns a) := (hv a ha).resolve_left (by omega)
        obtain ⟨_, h5⟩ := v_ref hva hi h64
        obtain ⟨d, hd, _, e5⟩ := dg_of (m := 5) (by omega) h5
        have h6 := (hpos a ha).2 i hi h64
        rw [e5] at h6 ⊢
        exact hP5.2.1 d (by omega) (by omega)
      refine ih4 _ ⟨fun q j hq => ?_, fun o ho hpo => ?_, fun o ho hpo => ?_⟩
      · rw [jset_ne (by omega), hf q j (by omega)]
        exact hP5.1 q j hq
      · rw [jset_if]
        by_cases hoa : o = a
        · rw [if_pos ⟨rfl, hoa⟩, hoa]
          exact hwM (by rw [← hoa]; omega)
        · rw [if_neg (fun h => hoa h.2), hf 367 o (by omega)]
          exact hP5.2.1 o ho hpo
      · rw [jset_if]
        by_cases hoa : o = a
        · rw [if_pos ⟨rfl, hoa⟩, hoa]
          exact hwM (by rw [← hoa]; omega)
        · rw [if_neg (fun h => hoa h.2), hf 367 o (by omega)]
          exact hP5.2.2 o (by omega) hpo
    · rw [if_pos (by decide), n32_succ]
      refine wq_let (ih1 S5 ⟨hP5.1, fun a ha hpa => hP5.2.2 a ha (by omega)⟩)
  · rw [if_pos (by decide)]
    exact ⟨rfl, rfl, hP.1, fun a ha => hP.2 a ha (hpos a ha).1⟩
end GAT
