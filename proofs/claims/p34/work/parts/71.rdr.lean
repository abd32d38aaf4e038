section RDR
/-- what may come behind a sign -/
def bh (c st op : Int32) : Int32 :=
  if st = 0 then (if c = 33 ∨ (c = 40 ∧ op < 8) then 0 else if c = 42 then 6 else if c = 108 ∨ c = 97 ∨ c = 112 then 1 else if c = 116 then 4 else if c = 64 then 5 else -1)
  else if st = 1 then (if c = 61 ∨ c = 60 ∨ c = 62 then 2 else -1)
  else if st = 2 then (if 48 ≤ c ∧ c ≤ 57 then 3 else -1)
  else if st = 4 then (if 48 ≤ c ∧ c ≤ 55 then 6 else -1)
  else if st = 5 then (if 48 ≤ c ∧ c ≤ 53 then 6 else -1)
  else if st = 3 ∧ (48 ≤ c ∧ c ≤ 57) then 6
  else if c = 124 ∨ c = 38 then 0 else if c = 41 ∧ 0 < op then 6 else -1
theorem m_digit {p : Int32} : f_X11_isDigit p = some (0, rg p 48 57, ()) := by
  unfold f_X11_isDigit
  rw [m_in, jbin0_s, chk_t rg_isb]
theorem m_behind {c st op : Int32} : f_X11_behind c st op = some (0, bh c st op, ()) := by
  unfold f_X11_behind joinK bh
  simp only [m_digit, m_in, jbin0_s, rg]
  by_cases h0 : st = 0
  · simp only [h0, if_true]
    by_cases h1 : c = 33
    · simp [h1]
    by_cases h2 : c = 40
    · simp only [h1, h2, if_false, if_true, true_and, false_or]
      by_cases h3 : (8 : Int32) ≤ op
      · have : ¬ op < 8 := Int32.not_lt.mpr h3
        simp [h3, this]
      · have : op < 8 := Int32.not_le.mp h3
        simp [h3, this]
    simp only [h1, h2, if_false, false_and, or_self]
    by_cases h3 : c = 108
    · simp [h3]
    by_cases h4 : c = 97
    · simp [h4]
    by_cases h5 : c = 112
    · simp [h5]
    simp only [h3, h4, h5, if_false, or_self, if_true]
    by_cases h6 : c = 42
    · simp [h6]
    simp only [h6, if_false]
    by_cases h7 : c = 116
    · simp [h7]
    by_cases h8 : c = 64
    · simp [h8]
    simp [h7, h8]
  simp only [h0, if_false]
  by_cases h1 : st = 1
  · simp only [h1, if_true]
    by_cases a1 : c = 61
    · simp [a1]
    by_cases a2 : c = 60
    · simp [a2]
    by_cases a3 : c = 62
    · simp [a3]
    simp [a1, a2, a3]
  simp only [h1, if_false]
  by_cases h2 : st = 2
  · simp only [h2, if_true]
    by_cases a : 48 ≤ c ∧ c ≤ 57
    · simp [a]
    · simp [a]
  simp only [h2, if_false]
  by_cases h4 : st = 4
  · simp only [h4, if_true]
    by_cases a : 48 ≤ c ∧ c ≤ 55
    · simp [a]
    · simp [a]
  simp only [h4, if_false]
  by_cases h5 : st = 5
  · simp only [h5, if_true]
    by_cases a : 48 ≤ c ∧ c ≤ 53
    · simp [a]
    · simp [a]
  simp only [h5, if_false]
  by_cases h3 : st = 3 ∧ (48 ≤ c ∧ c ≤ 57)
  · simp [h3.1, h3.2]
  · rw [if_neg h3]
    have e : (if c = 124 then some ((0 : Nat), (0 : Int32), ()) else if c = 38 then some (0, 0, ()) else if c = 41 then (if op ≤ 0 then some (0, -1, ()) else some (0, 6, ())) else some (0, -1, ())) = some (0, (if c = 124 ∨ c = 38 then 0 else if c = 41 ∧ 0 < op then 6 else -1), ()) := by
      by_cases a1 : c = 124
      · simp [a1]
      by_cases a2 : c = 38
      · simp [a2]
      by_cases a3 : c = 41
      · simp only [a3]
        by_cases a4 : op ≤ 0
        · have : ¬ (0 : Int32) < op := Int32.not_lt.mpr a4
          simp [a4, this]
        · have : (0 : Int32) < op := Int32.not_le.mp a4
          simp [a4, this]
      simp [a1, a2, a3]
    by_cases h6 : st = 3
    · have h7 : ¬ (48 ≤ c ∧ c ≤ 57) := fun h => h3 ⟨h6, h⟩
      simp only [h6, h7, if_true, if_false]
      exact e
    · simp only [h6, if_false]
      exact e
/-- the reader's state and the open brackets, before each sign -/
def rd (c : Nat → Int32) : Nat → Int32 × Nat
  | 0 => (0, 0)
  | i + 1 => (bh (c i) (rd c i).1 (Int32.ofNat (rd c i).2), if c i = 40 then (rd c i).2 + 1 else if c i = 41 then (rd c i).2 - 1 else (rd c i).2)
theorem rd_1 {c : Nat → Int32} {i : Nat} : (rd c (i + 1)).1 = bh (c i) (rd c i).1 (Int32.ofNat (rd c i).2) := rfl
theorem rd_2 {c : Nat → Int32} {i : Nat} : (rd c (i + 1)).2 = if c i = 40 then (rd c i).2 + 1 else if c i = 41 then (rd c i).2 - 1 else (rd c i).2 := rfl
/-- how a sign that may stand there is read -/
theorem bh_cases {c st op : Int32} (h : bh c st op ≠ -1) :
    (st = 0 ∧ ((c = 33 ∧ bh c st op = 0) ∨ (c = 40 ∧ op < 8 ∧ bh c st op = 0) ∨ (c = 42 ∧ bh c st op = 6) ∨ ((c = 108 ∨ c = 97 ∨ c = 112) ∧ bh c st op = 1) ∨ (c = 116 ∧ bh c st op = 4) ∨ (c = 64 ∧ bh c st op = 5))) ∨
    (st = 1 ∧ (c = 61 ∨ c = 60 ∨ c = 62) ∧ bh c st op = 2) ∨ (st = 2 ∧ (48 ≤ c ∧ c ≤ 57) ∧ bh c st op = 3) ∨ (st = 4 ∧ (48 ≤ c ∧ c ≤ 55) ∧ bh c st op = 6) ∨ (st = 5 ∧ (48 ≤ c ∧ c ≤ 53) ∧ bh c st op = 6) ∨
    (st = 3 ∧ (48 ≤ c ∧ c ≤ 57) ∧ bh c st op = 6) ∨ (st ≠ 0 ∧ st ≠ 1 ∧ st ≠ 2 ∧ st ≠ 4 ∧ st ≠ 5 ∧ (c = 124 ∨ c = 38) ∧ bh c st op = 0) ∨ (st ≠ 0 ∧ st ≠ 1 ∧ st ≠ 2 ∧ st ≠ 4 ∧ st ≠ 5 ∧ c = 41 ∧ 0 < op ∧ bh c st op = 6) := by
  unfold bh at h ⊢
  by_cases h0 : st = 0
  · simp only [h0, if_true] at h ⊢
    by_cases a1 : c = 33
    · simp [a1]
    by_cases a2 : c = 40
    · by_cases a3 : op < 8
      · simp [a2, a3]
      · simp [a2, a3] at h
    by_cases a3 : c = 42
    · simp [a3]
    by_cases a4 : c = 108
    · simp [a4]
    by_cases a5 : c = 97
    · simp [a5]
    by_cases a6 : c = 112
    · simp [a6]
    by_cases a7 : c = 116
    · simp [a7]
    by_cases a8 : c = 64
    · simp [a8]
    simp [a1, a2, a3, a4, a5, a6, a7, a8] at h
  simp only [h0, if_false] at h ⊢
  by_cases h1 : st = 1
  · simp only [h1, if_true] at h ⊢
    by_cases a : c = 61 ∨ c = 60 ∨ c = 62
    · simp [a]
    · simp [a] at h
  simp only [h1, if_false] at h ⊢
  by_cases h2 : st = 2
  · simp only [h2, if_true] at h ⊢
    by_cases a : 48 ≤ c ∧ c ≤ 57
    · simp [a]
    · simp [a] at h
  simp only [h2, if_false] at h ⊢
  by_cases h4 : st = 4
  · simp only [h4, if_true] at h ⊢
    by_cases a : 48 ≤ c ∧ c ≤ 55
    · simp [a]
    · simp [a] at h
  simp only [h4, if_false] at h ⊢
  by_cases h5 : st = 5
  · simp only [h5, if_true] at h ⊢
    by_cases a : 48 ≤ c ∧ c ≤ 53
    · simp [a]
    · simp [a] at h
  simp only [h5, if_false] at h ⊢
  by_cases h3 : st = 3 ∧ (48 ≤ c ∧ c ≤ 57)
  · simp only [h3, if_true, and_self]
    simp
  simp only [if_neg h3] at h ⊢
  by_cases a : c = 124 ∨ c = 38
  · simp [a, h0, h1, h2, h4, h5]
  simp only [if_neg a] at h ⊢
  by_cases a1 : c = 41 ∧ 0 < op
  · simp [a1.1, a1.2, h0, h1, h2, h4, h5]
  · simp [if_neg a1] at h
theorem rd_le {c : Nat → Int32} : ∀ i, (∀ j, j ≤ i → (rd c j).1 ≠ -1) → (rd c i).2 ≤ 8 ∧ ((rd c i).1 = 0 ∨ (rd c i).1 = 1 ∨ (rd c i).1 = 2 ∨ (rd c i).1 = 3 ∨ (rd c i).1 = 4 ∨ (rd c i).1 = 5 ∨ (rd c i).1 = 6)
  | 0, _ => ⟨Nat.zero_le _, Or.inl rfl⟩
  | i + 1, h => by
    obtain ⟨h1, h2⟩ := rd_le i (fun j hj => h j (by omega))
    have h3 : bh (c i) (rd c i).1 (Int32.ofNat (rd c i).2) ≠ -1 := h (i + 1) (Nat.le_refl _)
    rw [rd_1, rd_2]
    have h4 := bh_cases h3
    refine ⟨?_, ?_⟩
    · by_cases a : c i = 40
      · rw [if_pos a]
        rcases h4 with ⟨_, h4⟩ | ⟨_, h4, _⟩ | ⟨_, h4, _⟩ | ⟨_, h4, _⟩ | ⟨_, h4, _⟩ | ⟨_, h4, _⟩ | ⟨_, _, _, _, _, h4, _⟩ | ⟨_, _, _, _, _, h4, _⟩
        · rcases h4 with ⟨h4, _⟩ | ⟨_, h4, _⟩ | ⟨h4, _⟩ | ⟨h4, _⟩ | ⟨h4, _⟩ | ⟨h4, _⟩
          · rw [a] at h4
            exact absurd h4 (by decide)
          · have : Int32.ofNat (rd c i).2 < Int32.ofNat 8 := h4
            rw [n32_lt' (by omega) (by omega)] at this
            omega
          all_goals (rw [a] at h4; exact absurd h4 (by decide))
        all_goals (rw [a] at h4; exact absurd h4 (by decide))
      · rw [if_neg a]
        by_cases a1 : c i = 41
        · rw [if_pos a1]
          omega
        · rw [if_neg a1]
          exact h1
    · rcases h4 with ⟨_, h4⟩ | ⟨_, _, h4⟩ | ⟨_, _, h4⟩ | ⟨_, _, h4⟩ | ⟨_, _, h4⟩ | ⟨_, _, h4⟩ | ⟨_, _, _, _, _, _, h4⟩ | ⟨_, _, _, _, _, _, _, h4⟩
      · rcases h4 with ⟨_, h4⟩ | ⟨_, _, h4⟩ | ⟨_, h4⟩ | ⟨_, h4⟩ | ⟨_, h4⟩ | ⟨_, h4⟩ <;> simp [h4]
      all_goals simp [h4]
end RDR
