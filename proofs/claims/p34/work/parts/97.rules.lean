section RUL
theorem inv_fl {S SM S1 SM1 : jS} {L : jLg} (h : InvL S L SM) (hS : ∀ q j, ¬ (322 ≤ q ∧ q ≤ 345) → S1 q j = S q j) (hM : ∀ q j, (¬ (372 ≤ q ∧ q ≤ 374) ∧ ¬ (q = 358 ∧ j = 0)) → SM1 q j = SM q j) (hd : IFl S1 SM1) : InvL S1 L SM1 := by
  obtain ⟨h1, h2, h3, h4, h5, h6, h7, h8⟩ := h
  exact ⟨IPe_c h1 (fun q j _ _ => hS q j (by omega)) (fun q j _ _ => hM q j (by omega)), IDr_c h2 (fun a j ha => ⟨hS _ _ (by omega), hS _ _ (by omega)⟩) (fun q j _ _ => hM q j (by omega)),
    ITx_c h3 (fun q j _ _ => hS q j (by omega)) (fun a j ha => ⟨hS _ _ (by omega), hS _ _ (by omega)⟩) (fun q j _ _ => hM q j (by omega)), hd,
    INe_c h5 (fun q j _ _ => hS q j (by omega)) (fun j => hM 375 j (by omega)), ITr_c h6 (fun q j _ _ => hS q j (by omega)) (fun q j hq => hM q j (by omega)), IPa_c h7 (fun q j _ _ => hS q j (by omega)) (fun q j _ _ => hM q j (by omega)),
    ILo_c h8 (fun q j _ _ => hS q j (by omega)) (hM 358 30 (by omega))⟩
/-- a row without the thing at a place -/
def dl (pl n : Nat) (f : Nat → Int32) : Nat → Int32 := fun j => if pl ≤ j ∧ j + 1 < n then f (j + 1) else f j
/-- a row with a thing more -/
def ins (pl n : Nat) (v : Int32) (f : Nat → Int32) : Nat → Int32 := fun j => if j = pl then v else if pl < j ∧ j ≤ n then f (j - 1) else f j
theorem js2_1 {S : jS} {a b i j : Nat} {v1 v2 : Int32} (h : a ≠ b) : jset (jset S a i v1) b i v2 a j = if j = i then v1 else S a j := by
  rw [jset_ne (by omega), jset_if]
  by_cases hj : j = i
  · rw [if_pos ⟨rfl, hj⟩, if_pos hj]
  · rw [if_neg (fun h => hj h.2), if_neg hj]
theorem js2_2 {S : jS} {a b i j : Nat} {v1 v2 : Int32} (h : a ≠ b) : jset (jset S a i v1) b i v2 b j = if j = i then v2 else S b j := by
  rw [jset_if]
  by_cases hj : j = i
  · rw [if_pos ⟨rfl, hj⟩, if_pos hj]
  · rw [if_neg (fun h => hj h.2), if_neg hj, jset_ne (by omega)]
theorem js2_o {S : jS} {a b i q j : Nat} {v1 v2 : Int32} (h1 : q ≠ a) (h2 : q ≠ b) : jset (jset S a i v1) b i v2 q j = S q j := by
  rw [jset_ne (by omega), jset_ne (by omega)]
theorem f_delete {S : jS} {b n pl : Nat} (hn : n ≤ 5) (hpl : pl < n) (hc : S b 2 = Int32.ofNat n) : ∃ S1, f_X3_delete S b (Int32.ofNat pl) = some (0, 0, S1) ∧ S1 b 2 = Int32.ofNat (n - 1) ∧ (∀ j, S1 (b + 1) j = dl pl n (S (b + 1)) j) ∧ (∀ j, S1 (b + 2) j = dl pl n (S (b + 2)) j) ∧ ∀ q j, q ≠ b → q ≠ b + 1 → q ≠ b + 2 → S1 q j = S q j := by
  suffices hw : wq (f_X3_delete S b (Int32.ofNat pl)) (fun t v S1 => t = 0 ∧ v = 0 ∧ S1 b 2 = Int32.ofNat (n - 1) ∧ (∀ j, S1 (b + 1) j = dl pl n (S (b + 1)) j) ∧ (∀ j, S1 (b + 2) j = dl pl n (S (b + 2)) j) ∧ ∀ q j, q ≠ b → q ≠ b + 1 → q ≠ b + 2 → S1 q j = S q j) by
    obtain ⟨t, v, S1, e, rfl, rfl, h⟩ := wq_ex hw
    exact ⟨S1, e, h⟩
  unfold f_X3_delete
  have el : (Int32.ofNat pl < Int32.ofNat n) = (pl < n) := n32_lt' (by omega) (by omega)
  refine wq_join fun k1 hk1 => wq_ite (fun h => absurd h (n32_nn (by omega))) (fun _ => ?_)
  rw [hc]
  refine wq_ite (fun _ => ?_) (fun h => absurd (Eq.mpr el hpl) h)
  refine wq_for (fun (K : jS → Int32 → Option (jR jS)) i (b : jS) => K b i) (n - 1) (fun i S3 => pl ≤ i ∧ S3 b 2 = Int32.ofNat n ∧ (∀ j, S3 (b + 1) j = if pl ≤ j ∧ j < i then S (b + 1) (j + 1) else S (b + 1) j) ∧ (∀ j, S3 (b + 2) j = if pl ≤ j ∧ j < i then S (b + 2) (j + 1) else S (b + 2) j) ∧ ∀ q j, q ≠ b → q ≠ b + 1 → q ≠ b + 2 → S3 q j = S q j) (fun rec i S3 hi hP ih => ?_) (fun rec S3 hP => ?_) (n - 1 - pl) pl 1000 S (by omega) (by omega) ⟨Nat.le_refl _, hc, fun j => by rw [if_neg (by omega)], fun j => by rw [if_neg (by omega)], fun _ _ _ _ _ => rfl⟩
  · obtain ⟨h0, h1, h2, h3, h4⟩ := hP
    have e : (Int32.ofNat (n - 1) ≤ Int32.ofNat i) = (n - 1 ≤ i) := n32_le (by omega) (by omega)
    rw [h1, n32_pred (by omega)]
    refine wq_ite (fun h => absurd (Eq.mp e h) (by omega)) (fun _ => ?_)
    rw [n32_succ]
    have ci : (Int32.ofNat i).toNatClampNeg = i := n32_c (by omega)
    have ci1 : (Int32.ofNat (i + 1)).toNatClampNeg = i + 1 := n32_c (by omega)
    refine wq_chk (n32_inb (by omega) (by omega)) (wq_chk (n32_inb (by omega) (by omega)) (wq_let (wq_chk (n32_inb (by omega) (by omega)) (wq_chk (n32_inb (by omega) (by omega)) (wq_let (wq_let ?_))))))
    rw [ci, ci1, jset_ne (q := b + 2) (k := b + 1) (by omega)]
    have sh : ∀ (r : Nat), (∀ j, S3 r j = if pl ≤ j ∧ j < i then S r (j + 1) else S r j) → ∀ j, (if j = i then S3 r (i + 1) else S3 r j) = if pl ≤ j ∧ j < i + 1 then S r (j + 1) else S r j := fun r hr j => by
      by_cases hj : j = i
      · rw [if_pos hj, hr, if_neg (by omega), if_pos (by omega), hj]
      · rw [if_neg hj, hr]
        by_cases h9 : pl ≤ j ∧ j < i
        · rw [if_pos h9, if_pos (by omega)]
        · rw [if_neg h9, if_neg (by omega)]
    refine ih _ ⟨by omega, ?_, fun j => ?_, fun j => ?_, fun q j hq1 hq2 hq3 => ?_⟩
    · rw [js2_o (by omega) (by omega)]
      exact h1
    · rw [js2_1 (by omega)]
      exact sh _ h2 j
    · rw [js2_2 (by omega)]
      exact sh _ h3 j
    · rw [js2_o hq2 hq3]
      exact h4 q j hq1 hq2 hq3
  · obtain ⟨h0, h1, h2, h3, h4⟩ := hP
    rw [h1, n32_pred (by omega)]
    refine wq_ite (fun _ => wq_let ?_) (fun h => absurd (Int32.le_refl _) h)
    refine ⟨rfl, rfl, jset_at, fun j => ?_, fun j => ?_, fun q j hq1 hq2 hq3 => ?_⟩
    · rw [jset_ne (by omega), h2]
      unfold dl
      by_cases h9 : pl ≤ j ∧ j < n - 1
      · rw [if_pos h9, if_pos (by omega)]
      · rw [if_neg h9, if_neg (by omega)]
    · rw [jset_ne (by omega), h3]
      unfold dl
      by_cases h9 : pl ≤ j ∧ j < n - 1
      · rw [if_pos h9, if_pos (by omega)]
      · rw [if_neg h9, if_neg (by omega)]
    · rw [jset_ne (by omega)]
      exact h4 q j hq1 hq2 hq3
theorem f_insert {S : jS} {b n pl : Nat} {v1 v2 : Int32} (hn : n < 5) (hpl : pl ≤ n) (hc : S b 2 = Int32.ofNat n) : ∃ S1, f_X3_insert S b (Int32.ofNat pl) v1 v2 = some (0, 0, S1) ∧ S1 b 2 = Int32.ofNat (n + 1) ∧ (∀ j, S1 (b + 1) j = ins pl n v1 (S (b + 1)) j) ∧ (∀ j, S1 (b + 2) j = ins pl n v2 (S (b + 2)) j) ∧ ∀ q j, q ≠ b → q ≠ b + 1 → q ≠ b + 2 → S1 q j = S q j := by
  suffices hw : wq (f_X3_insert S b (Int32.ofNat pl) v1 v2) (fun t v S1 => t = 0 ∧ v = 0 ∧ S1 b 2 = Int32.ofNat (n + 1) ∧ (∀ j, S1 (b + 1) j = ins pl n v1 (S (b + 1)) j) ∧ (∀ j, S1 (b + 2) j = ins pl n v2 (S (b + 2)) j) ∧ ∀ q j, q ≠ b → q ≠ b + 1 → q ≠ b + 2 → S1 q j = S q j) by
    obtain ⟨t, v, S1, e, rfl, rfl, h⟩ := wq_ex hw
    exact ⟨S1, e, h⟩
  unfold f_X3_insert
  have el : (Int32.ofNat n < Int32.ofNat pl) = (n < pl) := n32_lt' (by omega) (by omega)
  have e5 : (Int32.ofNat n < (5 : Int32)) = (n < 5) := n32_lt' (n := n) (i := 5) (by omega) (by omega)
  refine wq_join fun k1 hk1 => wq_ite (fun h => absurd h (n32_nn (by omega))) (fun _ => ?_)
  rw [hc]
  refine wq_ite (fun h => absurd (Eq.mp el h) (by omega)) (fun _ => wq_ite (fun _ => wq_let ?_) (fun h => absurd (Eq.mpr e5 hn) h))
  refine wq_fall (fun (K : jS → Int32 → Option (jR jS)) (b : jS × Int32) => K b.1 b.2) (fun k b9 => b9.2 = Int32.ofNat (pl + k) ∧ pl + k ≤ n ∧ b9.1 b 2 = Int32.ofNat n ∧ (∀ j, b9.1 (b + 1) j = if pl + k < j ∧ j ≤ n then S (b + 1) (j - 1) else S (b + 1) j) ∧ (∀ j, b9.1 (b + 2) j = if pl + k < j ∧ j ≤ n then S (b + 2) (j - 1) else S (b + 2) j) ∧ ∀ q j, q ≠ b → q ≠ b + 1 → q ≠ b + 2 → b9.1 q j = S q j) (fun rec k b9 hP ih => ?_) (n - pl) 1000 (S, Int32.ofNat n) (by omega) ⟨by dsimp only; congr 1; omega, by omega, hc, fun j => by rw [if_neg (by omega)], fun j => by rw [if_neg (by omega)], fun _ _ _ _ _ => rfl⟩
  obtain ⟨S4, x5⟩ := b9
  obtain ⟨h0, hle, h1, h2, h3, h4⟩ := hP
  dsimp only at h0 h1 h2 h3 h4 ⊢
  subst h0
  have e : (Int32.ofNat (pl + k) ≤ Int32.ofNat pl) = (pl + k ≤ pl) := n32_le (by omega) (by omega)
  have cp : (Int32.ofNat pl).toNatClampNeg = pl := n32_c (by omega)
  refine wq_ite (fun h => ?_) (fun h => ?_)
  · have h := Eq.mp e h
    have hk : k = 0 := by omega
    subst hk
    refine wq_chk (n32_inb (by omega) (by omega)) (wq_let (wq_chk (n32_inb (by omega) (by omega)) (wq_let (wq_let ?_))))
    rw [cp]
    have fin : ∀ (r : Nat) (v : Int32), (∀ j, S4 r j = if pl + 0 < j ∧ j ≤ n then S r (j - 1) else S r j) → ∀ j, (if j = pl then v else S4 r j) = ins pl n v (S r) j := fun r v hr j => by
      unfold ins
      by_cases hj : j = pl
      · rw [if_pos hj, if_pos hj]
      · rw [if_neg hj, if_neg hj, hr]
        rfl
    refine ⟨rfl, rfl, ?_, fun j => ?_, fun j => ?_, fun q j hq1 hq2 hq3 => ?_⟩
    · rw [jset_at, js2_o (by omega) (by omega), h1, n32_succ]
    · rw [jset_ne (by omega), js2_1 (by omega)]
      exact fin _ _ h2 j
    · rw [jset_ne (by omega), js2_2 (by omega)]
      exact fin _ _ h3 j
    · rw [jset_ne (by omega), js2_o hq2 hq3]
      exact h4 q j hq1 hq2 hq3
  · have h : ¬ pl + k ≤ pl := fun h9 => h (Eq.mpr e h9)
    obtain ⟨k1, rfl⟩ : ∃ k1, k = k1 + 1 := ⟨k - 1, by omega⟩
    have ed : Int32.ofNat (pl + (k1 + 1)) - (1 : Int32) = Int32.ofNat (pl + k1) := by
      rw [n32_pred (by omega)]
      rfl
    have ed2 : Int32.ofNat (pl + (k1 + 1)) + (-1 : Int32) = Int32.ofNat (pl + k1) := by
      rw [← ed, Int32.sub_eq_add_neg]
    have c1 : (Int32.ofNat (pl + (k1 + 1))).toNatClampNeg = pl + (k1 + 1) := n32_c (by omega)
    have c0 : (Int32.ofNat (pl + k1)).toNatClampNeg = pl + k1 := n32_c (by omega)
    rw [ed, ed2, c1, c0]
    refine wq_chk (n32_inb (by omega) (by omega)) (wq_chk (n32_inb (by omega) (by omega)) (wq_let (wq_chk (n32_inb (by omega) (by omega)) (wq_chk (n32_inb (by omega) (by omega)) (wq_let (wq_let ?_))))))
    rw [jset_ne (q := b + 2) (k := b + 1) (by omega)]
    have sh : ∀ (r : Nat), (∀ j, S4 r j = if pl + (k1 + 1) < j ∧ j ≤ n then S r (j - 1) else S r j) → ∀ j, (if j = pl + (k1 + 1) then S4 r (pl + k1) else S4 r j) = if pl + k1 < j ∧ j ≤ n then S r (j - 1) else S r j := fun r hr j => by
      by_cases hj : j = pl + (k1 + 1)
      · rw [if_pos hj, hr, if_neg (by omega), if_pos (by omega), hj]
        rfl
      · rw [if_neg hj, hr]
        by_cases h9 : pl + (k1 + 1) < j ∧ j ≤ n
        · rw [if_pos h9, if_pos (by omega)]
        · rw [if_neg h9, if_neg (by omega)]
    refine ih k1 (jset (jset S4 (b + 1) (pl + (k1 + 1)) (S4 (b + 1) (pl + k1))) (b + 2) (pl + (k1 + 1)) (S4 (b + 2) (pl + k1)), Int32.ofNat (pl + k1)) rfl ⟨rfl, by omega, ?_, fun j => ?_, fun j => ?_, fun q j hq1 hq2 hq3 => ?_⟩
    · dsimp only
      rw [js2_o (by omega) (by omega)]
      exact h1
    · dsimp only
      rw [js2_1 (by omega)]
      exact sh _ h2 j
    · dsimp only
      rw [js2_2 (by omega)]
      exact sh _ h3 j
    · dsimp only
      rw [js2_o hq2 hq3]
      exact h4 q j hq1 hq2 hq3
end RUL
