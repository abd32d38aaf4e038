section FLT
theorem jset_at {S : jS} {k i : Nat} {v : Int32} : jset S k i v k i = v := by
  unfold jset upd
  rw [if_pos rfl, if_pos rfl]
theorem jset_ne {S : jS} {k i q j : Nat} {v : Int32} (h : ¬ (q = k ∧ j = i)) : jset S k i v q j = S q j := by
  unfold jset upd
  by_cases hq : q = k
  · subst hq
    rw [if_pos rfl, if_neg (fun hj => h ⟨rfl, hj⟩)]
  · rw [if_neg hq]
theorem jset_if {S : jS} {k i q j : Nat} {v : Int32} : jset S k i v q j = if q = k ∧ j = i then v else S q j := by
  by_cases h : q = k ∧ j = i
  · rw [if_pos h, h.1, h.2]
    exact jset_at
  · rw [if_neg h]
    exact jset_ne h
theorem n32_pred {o : Nat} (h : 1 ≤ o) : Int32.ofNat o - (1 : Int32) = Int32.ofNat (o - 1) := by
  have e : Int32.ofNat o = Int32.ofNat (o - 1) + (1 : Int32) := by
    rw [n32_succ, Nat.sub_add_cancel h]
  rw [e, Int32.add_sub_cancel]
theorem f_infac {S : jS} {c : Int32} {o : Nat} (hop : S 32 1 = Int32.ofNat o) (ho : o ≤ 8) : f_X7_stateInFactor S c = some (0, bh c 0 (Int32.ofNat o), if c = 40 then jset S 32 1 (Int32.ofNat (o + 1)) else S) := by
  unfold f_X7_stateInFactor bh joinK letE
  simp only [if_true]
  by_cases a1 : c = 33
  · simp [a1]
  by_cases a2 : c = 40
  · simp only [a1, a2, if_true, if_false, false_or, true_and, hop, n32_succ, jset_at]
    have e8 : ((8 : Int32) < Int32.ofNat (o + 1)) = (8 < o + 1) := n32_lt' (n := 8) (i := o + 1) (by omega) (by omega)
    have e9 : (Int32.ofNat o < (8 : Int32)) = (o < 8) := n32_lt' (n := o) (i := 8) (by omega) (by omega)
    simp only [e8, e9]
    by_cases h : 8 < o + 1
    · have : ¬ o < 8 := by omega
      simp [h, this]
    · have : o < 8 := by omega
      simp [h, this]
  by_cases a3 : c = 42
  · simp [a3]
  by_cases a8 : c = 64
  · simp [a8]
  by_cases a5 : c = 97
  · simp [a5]
  by_cases a4 : c = 108
  · simp [a4]
  by_cases a6 : c = 112
  · simp [a6]
  by_cases a7 : c = 116
  · simp [a7]
  simp [a1, a2, a3, a4, a5, a6, a7, a8]
theorem f_behfac {S : jS} {c : Int32} {o : Nat} (hop : S 32 1 = Int32.ofNat o) (ho : o ≤ 8) : f_X7_stateBehindFactor S c = some (0, (if c = 124 ∨ c = 38 then 0 else if c = 41 ∧ 0 < Int32.ofNat o then 6 else -1), if c = 41 then jset S 32 1 (Int32.ofNat o - 1) else S) := by
  unfold f_X7_stateBehindFactor joinK letE
  by_cases a1 : c = 38
  · simp [a1]
  by_cases a2 : c = 41
  · simp only [a1, a2, if_true, if_false, true_and, hop, jset_at]
    have e8 : ((0 : Int32) < Int32.ofNat o) = (0 < o) := n32_lt' (n := 0) (i := o) (by omega) (by omega)
    simp only [e8]
    by_cases h : 0 < o
    · have : ¬ Int32.ofNat (o - 1) < 0 := n32_nn (by omega)
      simp [n32_pred h, h, this]
    · have : o = 0 := by omega
      subst this
      rfl
  by_cases a3 : c = 124
  · simp [a3]
  simp [a1, a2, a3]
theorem f_after {S : jS} {c : Int32} {o : Nat} (hop : S 32 1 = Int32.ofNat o) (ho : o ≤ 8) : ∃ S1, f_X7_stateAfter S c = some (0, bh c (S 32 0) (Int32.ofNat o), S1) ∧ (∀ q j, ¬ (q = 32 ∧ j = 1) → S1 q j = S q j) ∧ (bh c (S 32 0) (Int32.ofNat o) ≠ -1 → S1 32 1 = Int32.ofNat (if c = 40 then o + 1 else if c = 41 then o - 1 else o)) := by
  have hself : bh c (S 32 0) (Int32.ofNat o) ≠ -1 → c ≠ 40 → c ≠ 41 → S 32 1 = Int32.ofNat (if c = 40 then o + 1 else if c = 41 then o - 1 else o) := fun _ h1 h2 => by
    rw [if_neg h1, if_neg h2, hop]
  have hdg : ∀ (x y : Int32), (48 ≤ c ∧ c ≤ x) → x.toInt < 200 → c ≠ 40 ∧ c ≠ 41 := fun x y h _ => ⟨fun e => by rw [e] at h; exact absurd h.1 (by decide), fun e => by rw [e] at h; exact absurd h.1 (by decide)⟩
  unfold f_X7_stateAfter joinK
  by_cases h0 : S 32 0 = 0
  · rw [if_pos h0, f_infac hop ho, jbin0_s, h0]
    refine ⟨_, rfl, fun q j h => ?_, fun h => ?_⟩
    · by_cases a : c = 40
      · rw [if_pos a]
        exact jset_ne h
      · rw [if_neg a]
    · by_cases a : c = 40
      · rw [if_pos a, if_pos a, jset_at]
      · rw [if_neg a, if_neg a]
        by_cases a1 : c = 41
        · rw [a1] at h
          exact absurd (show bh 41 0 (Int32.ofNat o) = -1 by simp [bh]) h
        · rw [if_neg a1, hop]
  rw [if_neg h0]
  by_cases h1 : S 32 0 = 1
  · rw [if_pos h1, h1]
    refine ⟨S, ?_, fun _ _ _ => rfl, fun h => ?_⟩
    · unfold bh
      rw [if_neg (by decide), if_pos rfl]
      dsimp only
      by_cases a1 : c = 61
      · simp [a1]
      by_cases a2 : c = 60
      · simp [a2]
      by_cases a3 : c = 62
      · simp [a3]
      simp [a1, a2, a3]
    · have h4 := bh_cases h
      simp only [show (1 : Int32) ≠ 0 by decide, show (1 : Int32) ≠ 2 by decide, show (1 : Int32) ≠ 3 by decide, show (1 : Int32) ≠ 4 by decide, show (1 : Int32) ≠ 5 by decide, false_and, false_or, or_false, true_and, ne_eq, not_true, and_false, not_false_eq_true] at h4
      rw [hop, if_neg (by rcases h4.1 with e | e | e <;> rw [e] <;> decide), if_neg (by rcases h4.1 with e | e | e <;> rw [e] <;> decide)]
  rw [if_neg h1]
  by_cases h2 : S 32 0 = 2
  · rw [if_pos h2, h2]
    refine ⟨S, ?_, fun _ _ _ => rfl, fun h => ?_⟩
    · unfold bh
      rw [if_neg (by decide), if_neg (by decide), if_pos rfl]
      dsimp only
      by_cases a1 : c < 48
      · rw [if_pos a1, if_neg (fun h => Int32.not_lt.mpr h.1 a1)]
      · rw [if_neg a1]
        by_cases a2 : (57 : Int32) < c
        · rw [if_pos a2, if_neg (fun h => Int32.not_lt.mpr h.2 a2)]
        · rw [if_neg a2, if_pos ⟨Int32.not_lt.mp a1, Int32.not_lt.mp a2⟩]
    · have h4 := bh_cases h
      simp only [show (2 : Int32) ≠ 0 by decide, show (2 : Int32) ≠ 1 by decide, show (2 : Int32) ≠ 3 by decide, show (2 : Int32) ≠ 4 by decide, show (2 : Int32) ≠ 5 by decide, false_and, false_or, or_false, true_and, ne_eq, not_true, and_false, not_false_eq_true] at h4
      have h5 := hdg 57 0 h4.1 (by decide)
      rw [hop, if_neg h5.1, if_neg h5.2]
  rw [if_neg h2]
  by_cases h3 : S 32 0 = 3
  · rw [if_pos h3, h3]
    dsimp only
    have e3 : bh c 3 (Int32.ofNat o) = if 48 ≤ c ∧ c ≤ 57 then 6 else if c = 124 ∨ c = 38 then 0 else if c = 41 ∧ 0 < Int32.ofNat o then 6 else -1 := by
      unfold bh
      rw [if_neg (by decide), if_neg (by decide), if_neg (by decide), if_neg (by decide), if_neg (by decide)]
      simp
    by_cases a : 48 ≤ c ∧ c ≤ 57
    · refine ⟨S, ?_, fun _ _ _ => rfl, fun h => ?_⟩
      · rw [e3, if_pos a, if_neg (Int32.not_lt.mpr a.1), if_neg (Int32.not_lt.mpr a.2)]
      · have h5 := hdg 57 0 a (by decide)
        rw [hop, if_neg h5.1, if_neg h5.2]
    · have e : ∀ (A B : Option (jR jS)), (if c < 48 then A else if (57 : Int32) < c then A else B) = A := fun A B => by
        by_cases a1 : c < 48
        · rw [if_pos a1]
        · rw [if_neg a1, if_pos (Int32.not_le.mp fun a2 => a ⟨Int32.not_lt.mp a1, a2⟩)]
      rw [e, f_behfac hop ho, jbin0_s, e3, if_neg a]
      refine ⟨_, rfl, fun q j h => ?_, fun h => ?_⟩
      · by_cases a : c = 41
        · rw [if_pos a]
          exact jset_ne h
        · rw [if_neg a]
      · by_cases a1 : c = 41
        · subst a1
          rw [if_pos rfl, jset_at, if_neg (by decide), if_pos rfl]
          have ho1 : 0 < o := by
            rcases Nat.lt_or_ge 0 o with h8 | h8
            · exact h8
            · have : o = 0 := by omega
              subst this
              exact absurd (by decide) h
          exact n32_pred ho1
        · rw [if_neg a1, if_neg a1, hop, if_neg]
          intro h9
          rw [h9] at h
          exact absurd (by simp) h
  rw [if_neg h3]
  by_cases h4 : S 32 0 = 4
  · rw [if_pos h4, h4]
    refine ⟨S, ?_, fun _ _ _ => rfl, fun h => ?_⟩
    · unfold bh
      rw [if_neg (by decide), if_neg (by decide), if_neg (by decide), if_pos rfl]
      dsimp only
      have e55 : (56 : Int32) ≤ c ↔ ¬ c ≤ 55 := by
        rw [Int32.le_iff_toInt_le, Int32.le_iff_toInt_le]
        have : (56 : Int32).toInt = 56 := rfl
        have : (55 : Int32).toInt = 55 := rfl
        omega
      by_cases a1 : c < 48
      · rw [if_pos a1, if_neg (fun h => Int32.not_lt.mpr h.1 a1)]
      · rw [if_neg a1]
        by_cases a2 : c ≤ 55
        · rw [if_neg (fun h => (e55.mp h) a2), if_pos ⟨Int32.not_lt.mp a1, a2⟩]
        · rw [if_pos (e55.mpr a2), if_neg (fun h => a2 h.2)]
    · have h5 := bh_cases h
      simp only [show (4 : Int32) ≠ 0 by decide, show (4 : Int32) ≠ 1 by decide, show (4 : Int32) ≠ 3 by decide, show (4 : Int32) ≠ 2 by decide, show (4 : Int32) ≠ 5 by decide, false_and, false_or, or_false, true_and, ne_eq, not_true, and_false, not_false_eq_true] at h5
      have h6 := hdg 55 0 h5.1 (by decide)
      rw [hop, if_neg h6.1, if_neg h6.2]
  rw [if_neg h4]
  by_cases h5 : S 32 0 = 5
  · rw [if_pos h5, h5]
    refine ⟨S, ?_, fun _ _ _ => rfl, fun h => ?_⟩
    · unfold bh
      rw [if_neg (by decide), if_neg (by decide), if_neg (by decide), if_neg (by decide), if_pos rfl]
      dsimp only
      have e55 : (54 : Int32) ≤ c ↔ ¬ c ≤ 53 := by
        rw [Int32.le_iff_toInt_le, Int32.le_iff_toInt_le]
        have : (54 : Int32).toInt = 54 := rfl
        have : (53 : Int32).toInt = 53 := rfl
        omega
      by_cases a1 : c < 48
      · rw [if_pos a1, if_neg (fun h => Int32.not_lt.mpr h.1 a1)]
      · rw [if_neg a1]
        by_cases a2 : c ≤ 53
        · rw [if_neg (fun h => (e55.mp h) a2), if_pos ⟨Int32.not_lt.mp a1, a2⟩]
        · rw [if_pos (e55.mpr a2), if_neg (fun h => a2 h.2)]
    · have h6 := bh_cases h
      simp only [show (5 : Int32) ≠ 0 by decide, show (5 : Int32) ≠ 1 by decide, show (5 : Int32) ≠ 3 by decide, show (5 : Int32) ≠ 2 by decide, show (5 : Int32) ≠ 4 by decide, false_and, false_or, or_false, true_and, ne_eq, not_true, and_false, not_false_eq_true] at h6
      have h7 := hdg 53 0 h6.1 (by decide)
      rw [hop, if_neg h7.1, if_neg h7.2]
  rw [if_neg h5, f_behfac hop ho, jbin0_s]
  have e6 : bh c (S 32 0) (Int32.ofNat o) = if c = 124 ∨ c = 38 then 0 else if c = 41 ∧ 0 < Int32.ofNat o then 6 else -1 := by
    unfold bh
    rw [if_neg h0, if_neg h1, if_neg h2, if_neg h4, if_neg h5, if_neg (fun h => h3 h.1)]
  rw [e6]
  refine ⟨_, rfl, fun q j h => ?_, fun h => ?_⟩
  · by_cases a : c = 41
    · rw [if_pos a]
      exact jset_ne h
    · rw [if_neg a]
  · by_cases a1 : c = 41
    · subst a1
      rw [if_pos rfl, jset_at, if_neg (by decide), if_pos rfl]
      have ho1 : 0 < o := by
        rcases Nat.lt_or_ge 0 o with h8 | h8
        · exact h8
        · have : o = 0 := by omega
          subst this
          exact absurd (by decide) h
      exact n32_pred ho1
    · rw [if_neg a1, if_neg a1, hop, if_neg]
      intro h9
      rw [h9] at h
      exact absurd (by simp) h
end FLT
