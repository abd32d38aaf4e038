section EVC
theorem f_add {S : jS} {W : Int32} {d : Nat} (hd : d < 9) (h : S 33 3 = Int32.ofNat d) : f_X2_addFactor S W = some (0, 0, jset (jset S 35 d (S 35 d &&& (W ^^^ S 36 d))) 36 d 0) := by
  unfold f_X2_addFactor letE
  dsimp only
  rw [h, chk_t (n32_inb (by omega) hd), chk_t (n32_inb (by omega) hd), chk_t (n32_inb (by omega) hd), n32_cl (by omega), jset_ne (by omega), h, chk_t (n32_inb (by omega) hd), n32_cl (by omega)]
theorem f_beg {S : jS} {d : Nat} (hd : d < 9) (h : S 33 3 = Int32.ofNat d) : f_X2_beginExpression S = some (0, 0, jset (jset (jset S 34 d 0) 35 d 1048575) 36 d 0) := by
  unfold f_X2_beginExpression letE
  dsimp only
  rw [jset_ne (by omega), jset_ne (by omega), jset_ne (by omega), h, chk_t (n32_inb (by omega) hd), chk_t (n32_inb (by omega) hd), chk_t (n32_inb (by omega) hd), n32_cl (by omega)]
/-- the class's reader of a rule, for all persons at once -/
def RC (T : Nat → Nat → Bool) (c : Nat → Int32) (i : Nat) (S : jS) : Prop := S 33 3 = Int32.ofNat (rd c i).2 ∧ ∀ j, j ≤ (rd c i).2 → bits 20 (S 34 j) ∧ bits 20 (S 35 j) ∧ ∀ p, p < 20 → bt (S 34 j) p = (em (T p) c i).2.1 j ∧ bt (S 35 j) p = (em (T p) c i).2.2.1 j ∧ bt (S 36 j) p = (em (T p) c i).2.2.2 j
theorem em_T {T : Nat → Bool} {c : Nat → Int32} {i : Nat} (h : isT (c i) = true) : em T c (i + 1) = ((em T c i).1, (em T c i).2.1, ubd (em T c i).2.2.1 (em T c i).1 ((em T c i).2.2.1 (em T c i).1 && (T i != (em T c i).2.2.2 (em T c i).1)), ubd (em T c i).2.2.2 (em T c i).1 false) := if_pos h
theorem em_33 {T : Nat → Bool} {c : Nat → Int32} {i : Nat} (h : c i = 33) : em T c (i + 1) = ((em T c i).1, (em T c i).2.1, (em T c i).2.2.1, ubd (em T c i).2.2.2 (em T c i).1 (!(em T c i).2.2.2 (em T c i).1)) := by
  show (if isT (c i) = true then _ else _) = _
  rw [if_neg (by rw [h]; decide), if_pos h]
theorem em_124 {T : Nat → Bool} {c : Nat → Int32} {i : Nat} (h : c i = 124) : em T c (i + 1) = ((em T c i).1, ubd (em T c i).2.1 (em T c i).1 ((em T c i).2.1 (em T c i).1 || (em T c i).2.2.1 (em T c i).1), ubd (em T c i).2.2.1 (em T c i).1 true, (em T c i).2.2.2) := by
  show (if isT (c i) = true then _ else _) = _
  rw [if_neg (by rw [h]; decide), if_neg (by rw [h]; decide), if_pos h]
theorem em_40 {T : Nat → Bool} {c : Nat → Int32} {i : Nat} (h : c i = 40) : em T c (i + 1) = ((em T c i).1 + 1, ubd (em T c i).2.1 ((em T c i).1 + 1) false, ubd (em T c i).2.2.1 ((em T c i).1 + 1) true, ubd (em T c i).2.2.2 ((em T c i).1 + 1) false) := by
  show (if isT (c i) = true then _ else _) = _
  rw [if_neg (by rw [h]; decide), if_neg (by rw [h]; decide), if_neg (by rw [h]; decide), if_pos h]
theorem em_41 {T : Nat → Bool} {c : Nat → Int32} {i : Nat} (h : c i = 41) : em T c (i + 1) = ((em T c i).1 - 1, (em T c i).2.1, ubd (em T c i).2.2.1 ((em T c i).1 - 1) ((em T c i).2.2.1 ((em T c i).1 - 1) && (((em T c i).2.1 (em T c i).1 || (em T c i).2.2.1 (em T c i).1) != (em T c i).2.2.2 ((em T c i).1 - 1))), ubd (em T c i).2.2.2 ((em T c i).1 - 1) false) := by
  show (if isT (c i) = true then _ else _) = _
  rw [if_neg (by rw [h]; decide), if_neg (by rw [h]; decide), if_neg (by rw [h]; decide), if_neg (by rw [h]; decide), if_pos h]
theorem em_o {T : Nat → Bool} {c : Nat → Int32} {i : Nat} (h : ¬ isT (c i) = true) (h1 : c i ≠ 33) (h2 : c i ≠ 124) (h3 : c i ≠ 40) (h4 : c i ≠ 41) : em T c (i + 1) = em T c i := by
  show (if isT (c i) = true then _ else _) = _
  rw [if_neg h, if_neg h1, if_neg h2, if_neg h3, if_neg h4]
theorem rd_2o {c : Nat → Int32} {i : Nat} (h3 : c i ≠ 40) (h4 : c i ≠ 41) : (rd c (i + 1)).2 = (rd c i).2 := by
  rw [rd_2, if_neg h3, if_neg h4]
/-- a test is read -/
theorem RC_add {T : Nat → Nat → Bool} {c : Nat → Int32} {i : Nat} {S : jS} {W : Int32} (h : RC T c i S) (ht : isT (c i) = true) (hW : ∀ p, p < 20 → bt W p = T p i) : RC T c (i + 1) (jset (jset S 35 (rd c i).2 (S 35 (rd c i).2 &&& (W ^^^ S 36 (rd c i).2))) 36 (rd c i).2 0) := by
  have h40 : c i ≠ 40 := fun e => by rw [e] at ht; exact absurd ht (by decide)
  have h41 : c i ≠ 41 := fun e => by rw [e] at ht; exact absurd ht (by decide)
  unfold RC
  rw [rd_2o h40 h41]
  refine ⟨?_, fun j hj => ?_⟩
  · rw [jset_ne (by omega), jset_ne (by omega)]
    exact h.1
  · obtain ⟨h1, h2, h3⟩ := h.2 j hj
    rw [jset_ne (q := 34) (by omega), jset_ne (q := 34) (by omega), jset_ne (q := 35) (by omega), jset_if, jset_if (q := 36)]
    refine ⟨h1, ?_, fun p hp => ?_⟩
    · by_cases hjd : j = (rd c i).2
      · rw [if_pos ⟨rfl, hjd⟩]
        rw [hjd] at h2
        exact bits_and h2
      · rw [if_neg (fun h => hjd h.2)]
        exact h2
    · obtain ⟨a1, a2, a3⟩ := h3 p hp
      rw [em_T ht, em_d]
      refine ⟨a1, ?_, ?_⟩
      · by_cases hjd : j = (rd c i).2
        · rw [if_pos ⟨rfl, hjd⟩, bt_and, bt_xor, hW p hp]
          rw [hjd] at a2 a3
          rw [a2, a3]
          unfold ubd
          dsimp only
          rw [if_pos hjd]
        · rw [if_neg (fun h => hjd h.2), a2]
          unfold ubd
          dsimp only
          rw [if_neg hjd]
      · unfold ubd
        dsimp only
        by_cases hjd : j = (rd c i).2
        · rw [if_pos ⟨rfl, hjd⟩, if_pos hjd, bt_0]
        · rw [if_neg (fun h => hjd h.2), if_neg hjd, jset_ne (by omega)]
          exact a3
end EVC
