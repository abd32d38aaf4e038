section TAK
theorem getP_at {b r j : Nat} {S : jS} (h : inP r j) : getP b S r j = S (b + r) j := if_pos h
theorem getP_n {b r j : Nat} {S : jS} (h : ¬ inP r j) : getP b S r j = 0 := if_neg h
theorem getP_jset {b r j : Nat} {v : Int32} {S : jS} (h : inP r j) : getP b (jset S (b + r) j v) = jset (getP b S) r j v := by
  funext r1 j1
  by_cases h1 : inP r1 j1
  · rw [getP_at h1, jset_if, jset_if]
    by_cases h2 : r1 = r ∧ j1 = j
    · rw [if_pos ⟨by omega, h2.2⟩, if_pos h2]
    · rw [if_neg (fun h9 => h2 ⟨by omega, h9.2⟩), if_neg h2, getP_at h1]
  · rw [getP_n h1, jset_if, if_neg (fun h9 => h1 (by rw [h9.1, h9.2]; exact h)), getP_n h1]
theorem frP_jset {b r j : Nat} {v : Int32} {S S0 : jS} (h : inP r j) (hf : ∀ q, (q < b + 1 ∨ b + 11 < q) → S q = S0 q) : ∀ q, (q < b + 1 ∨ b + 11 < q) → jset S (b + r) j v q = S0 q := fun q hq => by
  have := inP_le h
  have e : jset S (b + r) j v q = S q := if_neg (by omega)
  rw [e]
  exact hf q hq
theorem in_1 {t : Nat} (h : t < 6) : inP 1 t := Or.inl ⟨rfl, h⟩
theorem in_3 {t f : Nat} (h : t < 6) (hf : f < 8) : inP (3 + t) f := Or.inr ⟨by omega, by omega, hf⟩
theorem in_9 {f : Nat} (hf : f < 8) : inP 9 f := Or.inr ⟨by omega, by omega, hf⟩
theorem in_10 {f : Nat} (hf : f < 8) : inP 10 f := Or.inr ⟨by omega, by omega, hf⟩
theorem in_11 {f : Nat} (hf : f < 8) : inP 11 f := Or.inr ⟨by omega, by omega, hf⟩
/-- a past takes what addHolder does -/
def adH (P : jS) (h : Int32) (f : Nat) (v : Int32) : jS := jset (if P 10 f = 0 then jset P 11 f v else P) 10 f (wb (P 10 f) h 1)
theorem f_addHolder {S S0 : jS} {b f : Nat} {h v : Int32} (hf : f < 8) (hfr : ∀ q, (q < b + 1 ∨ b + 11 < q) → S q = S0 q) : ∃ S1, f_X5_addHolder S b h (Int32.ofNat f) v = some (0, 0, S1) ∧ getP b S1 = adH (getP b S) h f v ∧ ∀ q, (q < b + 1 ∨ b + 11 < q) → S1 q = S0 q := by
  have c8 : inb (Int32.ofNat f) 8 = true := n32_inb (by omega) hf
  have cf : (Int32.ofNat f).toNatClampNeg = f := n32_c (by omega)
  unfold f_X5_addHolder joinK letE adH
  rw [getP_at (in_10 hf)]
  simp only [chk_t c8, cf, f_withBit, jbin0_s]
  by_cases h0 : S (b + 10) f = 0
  · rw [if_pos h0, if_pos h0, jset_ne (by omega)]
    exact ⟨_, rfl, by rw [getP_jset (in_10 hf), getP_jset (in_11 hf)], frP_jset (in_10 hf) (frP_jset (in_11 hf) hfr)⟩
  · rw [if_neg h0, if_neg h0]
    exact ⟨_, rfl, by rw [getP_jset (in_10 hf)], frP_jset (in_10 hf) hfr⟩
theorem f_take {S : jS} {b : Nat} {e : Nat → Int32} (he : EntOk e) : ∃ S1, f_X5_take S b e = some (0, 0, S1) ∧ getP b S1 = tk e (getP b S) ∧ ∀ q, (q < b + 1 ∨ b + 11 < q) → S1 q = S q := by
  unfold f_X5_take joinK
  rcases he with ⟨e0, ⟨f, hf, e2⟩, e3⟩ | ⟨e0, ⟨f, hf, e2⟩, t, ht, e3⟩ | ⟨e0, f, hf, e2⟩ | ⟨e0, f, hf, e2⟩ | ⟨e0, t, ht, e3⟩ | ⟨e0, t, ht, e3⟩ | ⟨e0, t, ht, e3⟩
  · have c8 : inb (e 2) 8 = true := by rw [e2]; exact n32_inb (by omega) hf
    have cf : (e 2).toNatClampNeg = f := by rw [e2]; exact n32_c (by omega)
    dsimp only
    rw [if_pos e0]
    unfold f_X5_noteShowing joinK letE
    rw [chk_t c8, cf]
    dsimp only
    rcases e3 with e3 | ⟨t, ht, e3⟩
    · rw [if_pos e3, jbin0_s]
      refine ⟨_, rfl, ?_, frP_jset (in_9 hf) (fun _ _ => rfl)⟩
      rw [getP_jset (in_9 hf)]
      funext r j
      unfold tk
      rw [if_pos (Or.inl e0), cf, jset_if]
      by_cases h1 : r = 9 ∧ j = f
      · rw [if_pos h1, if_pos h1]
      · rw [if_neg h1, if_neg h1, if_neg (fun h => h.1 e3), if_neg (fun h => absurd (e0.symm.trans h.1) (by decide))]
    · have c6 : inb (e 3) 6 = true := by rw [e3]; exact n32_inb (by omega) ht
      have ct : (e 3).toNatClampNeg = t := by rw [e3]; exact n32_c (by omega)
      have en : e 3 ≠ -1 := by rw [e3]; exact n32_m1 (by omega)
      rw [if_neg en, chk_t c6, ct, chk_t c8, jbin0_s, show b + 2 + (1 + t) = b + (3 + t) by omega]
      refine ⟨_, rfl, ?_, frP_jset (in_3 ht hf) (frP_jset (in_9 hf) (fun _ _ => rfl))⟩
      rw [getP_jset (in_3 ht hf), getP_jset (in_9 hf)]
      funext r j
      unfold tk
      rw [if_pos (Or.inl e0), cf, ct, jset_if, jset_if]
      by_cases h1 : r = 9 ∧ j = f
      · rw [if_pos h1, if_pos h1, if_neg (by omega)]
      · rw [if_neg h1, if_neg h1]
        by_cases h2 : r = 3 + t ∧ j = f
        · rw [if_pos h2, if_pos ⟨en, h2⟩]
        · rw [if_neg h2, if_neg (fun h => h2 h.2), if_neg (fun h => absurd (e0.symm.trans h.1) (by decide))]
  · have c8 : inb (e 2) 8 = true := by rw [e2]; exact n32_inb (by omega) hf
    have cf : (e 2).toNatClampNeg = f := by rw [e2]; exact n32_c (by omega)
    have c6 : inb (e 3) 6 = true := by rw [e3]; exact n32_inb (by omega) ht
    have ct : (e 3).toNatClampNeg = t := by rw [e3]; exact n32_c (by omega)
    have en : e 3 ≠ -1 := by rw [e3]; exact n32_m1 (by omega)
    dsimp only
    rw [if_neg (by rw [e0]; decide), if_pos e0]
    unfold f_X5_noteShowing joinK letE
    rw [chk_t c8, cf]
    dsimp only
    rw [if_neg en, chk_t c6, ct, chk_t c8, jbin0_s, chk_t c6, show b + 2 + (1 + t) = b + (3 + t) by omega]
    refine ⟨_, rfl, ?_, frP_jset (in_1 ht) (frP_jset (in_3 ht hf) (frP_jset (in_9 hf) (fun _ _ => rfl)))⟩
    rw [getP_jset (in_1 ht), getP_jset (in_3 ht hf), getP_jset (in_9 hf)]
    funext r j
    unfold tk
    rw [if_pos (Or.inr e0), cf, ct, jset_if, jset_if, jset_if]
    by_cases h3 : r = 1 ∧ j = t
    · rw [if_pos h3, if_neg (show ¬ (r = 9 ∧ j = f) by omega), if_neg (show ¬ (e 3 ≠ -1 ∧ r = 3 + t ∧ j = f) from fun h => by omega), if_pos (show e 0 = 1 ∧ r = 1 ∧ j = t from ⟨e0, h3⟩)]
    · rw [if_neg h3]
      by_cases h2 : r = 3 + t ∧ j = f
      · rw [if_pos h2, if_neg (show ¬ (r = 9 ∧ j = f) by omega), if_pos (show e 3 ≠ -1 ∧ r = 3 + t ∧ j = f from ⟨en, h2⟩)]
      · rw [if_neg h2]
        by_cases h1 : r = 9 ∧ j = f
        · rw [if_pos h1, if_pos h1]
        · rw [if_neg h1, if_neg h1, if_neg (show ¬ (e 3 ≠ -1 ∧ r = 3 + t ∧ j = f) from fun h => h2 h.2), if_neg (show ¬ (e 0 = 1 ∧ r = 1 ∧ j = t) from fun h => h3 h.2)]
  · have cf : (e 2).toNatClampNeg = f := by rw [e2]; exact n32_c (by omega)
    dsimp only
    rw [if_neg (by rw [e0]; decide), if_neg (by rw [e0]; decide), if_pos e0, e2]
    obtain ⟨S1, eA, hA, hf1⟩ := f_addHolder (S := S) (S0 := S) (b := b) (h := 6) (v := e 4) hf (fun _ _ => rfl)
    rw [eA, jbin0_s]
    refine ⟨S1, rfl, ?_, hf1⟩
    rw [hA]
    funext r j
    have htk : tk e (getP b S) r j = (if r = 10 ∧ j = f then wb (getP b S 10 j) 6 1 else if r = 11 ∧ j = f then (if getP b S 10 j = 0 then e 4 else getP b S 11 j) else getP b S r j) := by
      unfold tk
      rw [if_neg (by rw [e0]; decide), if_pos e0, cf]
    rw [htk]
    unfold adH
    rw [jset_if]
    by_cases h1 : r = 10 ∧ j = f
    · rw [if_pos h1, if_pos h1, h1.2]
    · rw [if_neg h1, if_neg h1]
      by_cases h0 : getP b S 10 f = 0
      · rw [if_pos h0, jset_if]
        by_cases h2 : r = 11 ∧ j = f
        · rw [if_pos h2, if_pos h2, h2.2, if_pos h0]
        · rw [if_neg h2, if_neg h2]
      · rw [if_neg h0]
        by_cases h2 : r = 11 ∧ j = f
        · rw [if_pos h2, h2.2, if_neg h0, h2.1]
        · rw [if_neg h2]
  · have c8 : inb (e 2) 8 = true := by rw [e2]; exact n32_inb (by omega) hf
    have cf : (e 2).toNatClampNeg = f := by rw [e2]; exact n32_c (by omega)
    dsimp only
    rw [if_neg (by rw [e0]; decide), if_neg (by rw [e0]; decide), if_neg (by rw [e0]; decide), if_pos e0, chk_t c8, f_withBit, jbin0_s, chk_t c8, cf]
    unfold letE
    refine ⟨_, rfl, ?_, frP_jset (in_10 hf) (fun _ _ => rfl)⟩
    rw [getP_jset (in_10 hf)]
    funext r j
    unfold tk
    rw [if_neg (by rw [e0]; decide), if_neg (by rw [e0]; decide), if_pos e0, cf, jset_if]
    by_cases h1 : r = 10 ∧ j = f
    · rw [if_pos h1, if_pos h1, h1.2, getP_at (in_10 hf)]
    · rw [if_neg h1, if_neg h1]
  · have c6 : inb (e 3) 6 = true := by rw [e3]; exact n32_inb (by omega) ht
    have ct : (e 3).toNatClampNeg = t := by rw [e3]; exact n32_c (by omega)
    dsimp only
    rw [if_neg (by rw [e0]; decide), if_neg (by rw [e0]; decide), if_neg (by rw [e0]; decide), if_neg (by rw [e0]; decide), if_pos e0]
    have hk4 : ∀ r j, tk e (getP b S) r j = (if r = 10 ∧ j < 8 then (if getP b S (3 + t) j = -1 then getP b S 10 j else wb (getP b S 10 j) (e 3) 1) else if r = 11 ∧ j < 8 then (if getP b S (3 + t) j = -1 then getP b S 11 j else if getP b S 10 j = 0 then getP b S (3 + t) j else getP b S 11 j) else getP b S r j) := fun r j => by
      unfold tk
      rw [if_neg (by rw [e0]; decide), if_neg (by rw [e0]; decide), if_neg (by rw [e0]; decide), if_pos e0, ct]
    suffices hw : wq (f_X5_holdWhatWasShownBy S b (e 3)) (fun t v S1 => t = 0 ∧ getP b S1 = tk e (getP b S) ∧ ∀ q, (q < b + 1 ∨ b + 11 < q) → S1 q = S q) by
      obtain ⟨t9, v9, S1, e9, rfl, h1, h2⟩ := wq_ex hw
      exact ⟨S1, by rw [e9, jbin0_s], h1, h2⟩
    unfold f_X5_holdWhatWasShownBy
    rw [ct]
    refine wq_for (fun (K : jS → Int32 → Option (jR jS)) i (b : jS) => K b i) 8 (fun i S2 => (∀ q, (q < b + 1 ∨ b + 11 < q) → S2 q = S q) ∧ ∀ r j, getP b S2 r j = if j < i then tk e (getP b S) r j else getP b S r j) (fun rec i S2 hi hP ih => ?_) (fun rec S2 hP => ?_) 8 0 1000 S (by omega) (by omega) ⟨fun _ _ => rfl, fun r j => by rw [if_neg (Nat.not_lt_zero _)]⟩
    · obtain ⟨hf2, hg⟩ := hP
      have e8 : ((8 : Int32) ≤ Int32.ofNat i) = (8 ≤ i) := n32_le (n := 8) (by omega) (by omega)
      refine wq_ite (fun h => absurd (Eq.mp e8 h) (by omega)) (fun _ => wq_chk c6 (wq_chk (n32_inb (by omega) hi) (wq_join fun k5 hk5 => ?_)))
      have hrow : S2 (b + 2 + (1 + t)) (Int32.ofNat i).toNatClampNeg = getP b S (3 + t) i := by
        rw [n32_c (by omega), show b + 2 + (1 + t) = b + (3 + t) by omega, ← getP_at (b := b) (S := S2) (in_3 ht hi), hg, if_neg (Nat.lt_irrefl _)]
      have h10 : getP b S2 10 i = getP b S 10 i := by rw [hg, if_neg (Nat.lt_irrefl _)]
      have h11 : getP b S2 11 i = getP b S 11 i := by rw [hg, if_neg (Nat.lt_irrefl _)]
      have fin : ∀ S3, (∀ q, (q < b + 1 ∨ b + 11 < q) → S3 q = S q) → (∀ r, getP b S3 r i = tk e (getP b S) r i) → (∀ r j, j ≠ i → getP b S3 r j = getP b S2 r j) → wq (k5 S3) (fun t v S1 => t = 0 ∧ getP b S1 = tk e (getP b S) ∧ ∀ q, (q < b + 1 ∨ b + 11 < q) → S1 q = S q) := fun S3 a1 a2 a3 => by
        rw [hk5]
        dsimp only
        rw [n32_succ]
        refine wq_let (ih S3 ⟨a1, fun r j => ?_⟩)
        by_cases hji : j = i
        · rw [hji, a2, if_pos (by omega)]
        · rw [a3 r j hji, hg]
          by_cases hlt : j < i
          · rw [if_pos hlt, if_pos (by omega)]
          · rw [if_neg hlt, if_neg (by omega)]
      rw [hrow]
      refine wq_ite (fun hm => fin S2 hf2 (fun r => ?_) (fun _ _ _ => rfl)) (fun hm => wq_chk c6 (wq_chk (n32_inb (by omega) hi) ?_))
      · rw [hg, if_neg (Nat.lt_irrefl _), hk4]
        by_cases h1 : r = 10 ∧ i < 8
        · rw [if_pos h1, if_pos hm, h1.1]
        · rw [if_neg h1]
          by_cases h2 : r = 11 ∧ i < 8
          · rw [if_pos h2, if_pos hm, h2.1]
          · rw [if_neg h2]
      · obtain ⟨S3, eA, hA, hf3⟩ := f_addHolder (S := S2) (S0 := S) (b := b) (h := e 3) (v := getP b S (3 + t) i) hi hf2
        rw [eA, jbin0_s]
        refine fin S3 hf3 (fun r => ?_) (fun r j hji => ?_)
        · rw [hA, hk4]
          unfold adH
          rw [h10, jset_if]
          by_cases h1 : r = 10 ∧ i < 8
          · rw [if_pos h1, if_pos ⟨h1.1, rfl⟩, if_neg hm]
          · rw [if_neg h1, if_neg (fun h => h1 ⟨h.1, hi⟩)]
            by_cases h0 : getP b S 10 i = 0
            · rw [if_pos h0, jset_if]
              by_cases h2 : r = 11 ∧ i < 8
              · rw [if_pos h2, if_pos ⟨h2.1, rfl⟩, if_neg hm, if_pos h0]
              · rw [if_neg h2, if_neg (fun h => h2 ⟨h.1, hi⟩), hg, if_neg (Nat.lt_irrefl _)]
            · rw [if_neg h0]
              by_cases h2 : r = 11 ∧ i < 8
              · rw [if_pos h2, if_neg hm, if_neg h0, h2.1, h11]
              · rw [if_neg h2, hg, if_neg (Nat.lt_irrefl _)]
        · rw [hA]
          unfold adH
          rw [jset_ne (by omega)]
          by_cases h0 : getP b S2 10 i = 0
          · rw [if_pos h0, jset_ne (by omega)]
          · rw [if_neg h0]
    · obtain ⟨hf2, hg⟩ := hP
      refine wq_ite (fun _ => ⟨rfl, ?_, hf2⟩) (fun h => absurd (by decide) h)
      funext r j
      rw [hg]
      by_cases hj : j < 8
      · rw [if_pos hj]
      · rw [if_neg hj, hk4, if_neg (fun h => hj h.2), if_neg (fun h => hj h.2)]
  · have ct : (e 3).toNatClampNeg = t := by rw [e3]; exact n32_c (by omega)
    dsimp only
    rw [if_neg (by rw [e0]; decide), if_neg (by rw [e0]; decide), if_neg (by rw [e0]; decide), if_neg (by rw [e0]; decide), if_neg (by rw [e0]; decide), if_pos e0]
    have hk5 : ∀ r j, tk e (getP b S) r j = (if r = 10 ∧ j < 8 then wb (getP b S 10 j) (e 3) 0 else getP b S r j) := fun r j => by
      unfold tk
      rw [if_neg (by rw [e0]; decide), if_neg (by rw [e0]; decide), if_neg (by rw [e0]; decide), if_neg (by rw [e0]; decide), if_pos e0]
    suffices hw : wq (f_X5_releaseAllOf S b (e 3)) (fun t v S1 => t = 0 ∧ getP b S1 = tk e (getP b S) ∧ ∀ q, (q < b + 1 ∨ b + 11 < q) → S1 q = S q) by
      obtain ⟨t9, v9, S1, e9, rfl, h1, h2⟩ := wq_ex hw
      exact ⟨S1, by rw [e9, jbin0_s], h1, h2⟩
    unfold f_X5_releaseAllOf
    refine wq_for (fun (K : jS → Int32 → Option (jR jS)) i (b : jS) => K b i) 8 (fun i S2 => (∀ q, (q < b + 1 ∨ b + 11 < q) → S2 q = S q) ∧ ∀ r j, getP b S2 r j = if j < i then tk e (getP b S) r j else getP b S r j) (fun rec i S2 hi hP ih => ?_) (fun rec S2 hP => ?_) 8 0 1000 S (by omega) (by omega) ⟨fun _ _ => rfl, fun r j => by rw [if_neg (Nat.not_lt_zero _)]⟩
    · obtain ⟨hf2, hg⟩ := hP
      have e8 : ((8 : Int32) ≤ Int32.ofNat i) = (8 ≤ i) := n32_le (n := 8) (by omega) (by omega)
      have ci : (Int32.ofNat i).toNatClampNeg = i := n32_c (by omega)
      have c8 : inb (Int32.ofNat i) 8 = true := n32_inb (by omega) hi
      refine wq_ite (fun h => absurd (Eq.mp e8 h) (by omega)) (fun _ => wq_chk c8 ?_)
      rw [ci, f_withBit, jbin0_s, n32_succ]
      have h10 : S2 (b + 10) i = getP b S 10 i := by rw [← getP_at (b := b) (S := S2) (in_10 hi), hg, if_neg (Nat.lt_irrefl _)]
      refine wq_chk c8 (wq_let (wq_let (ih _ ⟨frP_jset (in_10 hi) hf2, fun r j => ?_⟩)))
      rw [getP_jset (in_10 hi), jset_if, h10, hg]
      by_cases h1 : r = 10 ∧ j = i
      · rw [if_pos h1, if_pos (show j < i + 1 by omega), hk5, if_pos ⟨h1.1, by omega⟩, h1.2]
      · rw [if_neg h1]
        by_cases hlt : j < i
        · rw [if_pos hlt, if_pos (by omega)]
        · rw [if_neg hlt]
          by_cases hji : j = i
          · rw [if_pos (by omega), hk5, if_neg (fun h => h1 ⟨h.1, hji⟩)]
          · rw [if_neg (by omega)]
    · obtain ⟨hf2, hg⟩ := hP
      refine wq_ite (fun _ => ⟨rfl, ?_, hf2⟩) (fun h => absurd (by decide) h)
      funext r j
      rw [hg]
      by_cases hj : j < 8
      · rw [if_pos hj]
      · rw [if_neg hj, hk5, if_neg (fun h => hj h.2)]
  · have ct : (e 3).toNatClampNeg = t := by rw [e3]; exact n32_c (by omega)
    dsimp only
    rw [if_neg (by rw [e0]; decide), if_neg (by rw [e0]; decide), if_neg (by rw [e0]; decide), if_neg (by rw [e0]; decide), if_neg (by rw [e0]; decide), if_neg (by rw [e0]; decide), e3, f_forgetTrial ht, jbin0_s]
    refine ⟨_, rfl, ?_, fun q hq => ?_⟩
    · funext r j
      have htk : tk e (getP b S) r j = (if r = 1 ∧ j = t then -1 else if r = 3 + t ∧ j < 8 then -1 else getP b S r j) := by
        unfold tk
        rw [if_neg (by rw [e0]; decide), if_neg (by rw [e0]; decide), if_neg (by rw [e0]; decide), if_neg (by rw [e0]; decide), if_neg (by rw [e0]; decide), ct]
      rw [htk]
      by_cases h1 : inP r j
      · rw [getP_at h1, getP_at h1]
        have := inP_le h1
        by_cases h2 : r = 1 ∧ j = t
        · rw [if_pos h2, if_neg (by omega), if_pos (by omega)]
        · rw [if_neg h2]
          by_cases h3 : r = 3 + t ∧ j < 8
          · rw [if_pos h3, if_pos (by omega)]
          · rw [if_neg h3, if_neg (by omega), if_neg (by omega)]
      · rw [getP_n h1, getP_n h1, if_neg (fun h2 => h1 (by rw [h2.1, h2.2]; exact in_1 ht)), if_neg (fun h3 => h1 (by rw [h3.1]; exact in_3 ht h3.2))]
    · funext j
      rw [if_neg (by omega), if_neg (by omega)]
end TAK
