section VAL
theorem v_ok {c : Nat → Int32} {n i : Nat} (hv : Valid c n) (hi : i < n) : bh (c i) (rd c i).1 (Int32.ofNat (rd c i).2) ≠ -1 := hv.1 (i + 1) (by omega)
/-- where a text goes on -/
theorem v_more {c : Nat → Int32} {n i : Nat} (hv : Valid c n) (hi : i < n) (h6 : (rd c (i + 1)).1 ≠ 6) (h3 : (rd c (i + 1)).1 ≠ 3) : i + 1 < n := by
  rcases Nat.lt_or_ge (i + 1) n with h | h
  · exact h
  · have : n = i + 1 := by omega
    subst this
    rcases hv.2.2 with h9 | h9
    · exact absurd h9 h6
    · exact absurd h9 h3
/-- what may stand where a factor is wanted -/
theorem v_st0 {c : Nat → Int32} {n i : Nat} (hv : Valid c n) (hi : i < n) (h : isT (c i) = true ∨ c i = 33 ∨ c i = 40) : (rd c i).1 = 0 := by
  have h0 : c i = 42 ∨ c i = 108 ∨ c i = 97 ∨ c i = 112 ∨ c i = 116 ∨ c i = 64 ∨ c i = 33 ∨ c i = 40 := by
    rcases h with h | h | h
    · have := of_decide_eq_true h
      rcases this with h | h | h | h | h | h <;> simp [h]
    · simp [h]
    · simp [h]
  have h4 := bh_cases (v_ok hv hi)
  rcases h4 with ⟨h4, _⟩ | ⟨_, h4, _⟩ | ⟨_, h4, _⟩ | ⟨_, h4, _⟩ | ⟨_, h4, _⟩ | ⟨_, h4, _⟩ | ⟨_, _, _, _, _, h4, _⟩ | ⟨_, _, _, _, _, h4, _⟩
  · exact h4
  all_goals
    exfalso
    rcases h0 with e | e | e | e | e | e | e | e <;> rw [e] at h4 <;> revert h4 <;> decide
theorem v_tag {c : Nat → Int32} {n i : Nat} (hv : Valid c n) (hi : i < n) (h : c i = 116) : i + 1 < n ∧ (48 ≤ c (i + 1) ∧ c (i + 1) ≤ 55) := by
  have h0 := v_st0 hv hi (Or.inl (by rw [h]; decide))
  have e : (rd c (i + 1)).1 = 4 := by
    rw [rd_1, h0, h]
    rfl
  have h1 := v_more hv hi (by rw [e]; decide) (by rw [e]; decide)
  refine ⟨h1, ?_⟩
  have h2 := v_ok hv h1
  rw [e] at h2
  unfold bh at h2
  rw [if_neg (by decide), if_neg (by decide), if_neg (by decide), if_pos rfl] at h2
  by_cases a : 48 ≤ c (i + 1) ∧ c (i + 1) ≤ 55
  · exact a
  · rw [if_neg a] at h2
    exact absurd rfl h2
theorem v_ref {c : Nat → Int32} {n i : Nat} (hv : Valid c n) (hi : i < n) (h : c i = 64) : i + 1 < n ∧ (48 ≤ c (i + 1) ∧ c (i + 1) ≤ 53) := by
  have h0 := v_st0 hv hi (Or.inl (by rw [h]; decide))
  have e : (rd c (i + 1)).1 = 5 := by
    rw [rd_1, h0, h]
    rfl
  have h1 := v_more hv hi (by rw [e]; decide) (by rw [e]; decide)
  refine ⟨h1, ?_⟩
  have h2 := v_ok hv h1
  rw [e] at h2
  unfold bh at h2
  rw [if_neg (by decide), if_neg (by decide), if_neg (by decide), if_neg (by decide), if_pos rfl] at h2
  by_cases a : 48 ≤ c (i + 1) ∧ c (i + 1) ≤ 53
  · exact a
  · rw [if_neg a] at h2
    exact absurd rfl h2
theorem v_cmp {c : Nat → Int32} {n i : Nat} (hv : Valid c n) (hi : i < n) (h : c i = 108 ∨ c i = 97 ∨ c i = 112) : i + 1 < n ∧ i + 2 < n ∧ (48 ≤ c (i + 2) ∧ c (i + 2) ≤ 57) := by
  have h0 := v_st0 hv hi (Or.inl (by rcases h with h | h | h <;> rw [h] <;> decide))
  have e : (rd c (i + 1)).1 = 1 := by
    rw [rd_1, h0]
    rcases h with h | h | h <;> rw [h] <;> rfl
  have h1 := v_more hv hi (by rw [e]; decide) (by rw [e]; decide)
  have h2 := v_ok hv h1
  have e2 : (rd c (i + 2)).1 = 2 := by
    rw [rd_1]
    rw [e] at h2 ⊢
    unfold bh at h2 ⊢
    rw [if_neg (by decide), if_pos rfl] at h2 ⊢
    by_cases a : c (i + 1) = 61 ∨ c (i + 1) = 60 ∨ c (i + 1) = 62
    · rw [if_pos a]
    · rw [if_neg a] at h2
      exact absurd rfl h2
  have h3 := v_more hv h1 (by rw [e2]; decide) (by rw [e2]; decide)
  refine ⟨h1, h3, ?_⟩
  have h4 := v_ok hv h3
  rw [e2] at h4
  unfold bh at h4
  rw [if_neg (by decide), if_neg (by decide), if_pos rfl] at h4
  by_cases a : 48 ≤ c (i + 2) ∧ c (i + 2) ≤ 57
  · exact a
  · rw [if_neg a] at h4
    exact absurd rfl h4
theorem v_open {c : Nat → Int32} {n i : Nat} (hv : Valid c n) (hi : i < n) (h : c i = 40) : (rd c i).2 < 8 := by
  have h0 := v_st0 hv hi (Or.inr (Or.inr h))
  have h2 := v_ok hv hi
  rw [h0, h] at h2
  have hle := (rd_le (c := c) i (fun j hj => hv.1 j (by omega))).1
  rcases Nat.lt_or_ge (rd c i).2 8 with h9 | h9
  · exact h9
  · have : (rd c i).2 = 8 := by omega
    rw [this] at h2
    exact absurd (by decide) h2
theorem v_close {c : Nat → Int32} {n i : Nat} (hv : Valid c n) (hi : i < n) (h : c i = 41) : 1 ≤ (rd c i).2 ∧ (rd c i).1 ≠ 0 := by
  have hle := (rd_le (c := c) i (fun j hj => hv.1 j (by omega))).1
  have h4 := bh_cases (v_ok hv hi)
  rcases h4 with ⟨_, h4⟩ | ⟨_, h4, _⟩ | ⟨_, h4, _⟩ | ⟨_, h4, _⟩ | ⟨_, h4, _⟩ | ⟨_, h4, _⟩ | ⟨_, _, _, _, _, h4, _⟩ | ⟨h9, _, _, _, _, _, h4, _⟩
  · exfalso
    rw [h] at h4
    rcases h4 with ⟨h4, _⟩ | ⟨h4, _⟩ | ⟨h4, _⟩ | ⟨h4, _⟩ | ⟨h4, _⟩ | ⟨h4, _⟩ <;> revert h4 <;> decide
  all_goals first
    | (exfalso; rw [h] at h4; revert h4; decide)
    | skip
  have : Int32.ofNat 0 < Int32.ofNat (rd c i).2 := h4
  rw [n32_lt' (by omega) (by omega)] at this
  exact ⟨this, h9⟩
/-- nothing is turned where no factor is wanted -/
theorem em_nt {T : Nat → Bool} {c : Nat → Int32} {n : Nat} (hv : Valid c n) : ∀ i, i ≤ n → (rd c i).1 ≠ 0 → (em T c i).2.2.2 (em T c i).1 = false
  | 0, _, h => absurd rfl h
  | i + 1, hi, h => by
    have ih := em_nt (T := T) hv i (by omega)
    have hok := v_ok hv (show i < n by omega)
    rw [rd_1] at h
    show (if isT (c i) = true then _ else _ : Nat × (Nat → Bool) × (Nat → Bool) × (Nat → Bool)).2.2.2 (if isT (c i) = true then _ else _ : Nat × (Nat → Bool) × (Nat → Bool) × (Nat → Bool)).1 = false
    by_cases hT : isT (c i) = true
    · rw [if_pos hT]
      exact if_pos rfl
    · rw [if_neg hT]
      have h4 := bh_cases hok
      by_cases h1 : c i = 33
      · exfalso
        rw [v_st0 hv (by omega) (Or.inr (Or.inl h1)), h1] at h
        exact h rfl
      · rw [if_neg h1]
        by_cases h2 : c i = 124
        · exfalso
          have : bh (c i) (rd c i).1 (Int32.ofNat (rd c i).2) = 0 := by
            rw [h2] at h4 ⊢
            rcases h4 with ⟨_, h4⟩ | ⟨_, h4, _⟩ | ⟨_, h4, _⟩ | ⟨_, h4, _⟩ | ⟨_, h4, _⟩ | ⟨_, h4, _⟩ | ⟨_, _, _, _, _, _, h4⟩ | ⟨_, _, _, _, _, h4, _⟩
            · exfalso
              rcases h4 with ⟨h4, _⟩ | ⟨h4, _⟩ | ⟨h4, _⟩ | ⟨h4, _⟩ | ⟨h4, _⟩ | ⟨h4, _⟩ <;> revert h4 <;> decide
            all_goals first
              | exact h4
              | (exfalso; revert h4; decide)
          exact h this
        · rw [if_neg h2]
          by_cases h3 : c i = 40
          · rw [if_pos h3]
            exact if_pos rfl
          · rw [if_neg h3]
            by_cases h5 : c i = 41
            · rw [if_pos h5]
              exact if_pos rfl
            · rw [if_neg h5]
              refine ih fun h0 => ?_
              rcases h4 with ⟨_, h4⟩ | ⟨h4, _⟩ | ⟨h4, _⟩ | ⟨h4, _⟩ | ⟨h4, _⟩ | ⟨h4, _⟩ | ⟨h4, _⟩ | ⟨h4, _⟩
              · rcases h4 with ⟨h4, _⟩ | ⟨h4, _⟩ | ⟨h4, _⟩ | ⟨h4, _⟩ | ⟨h4, _⟩ | ⟨h4, _⟩
                · exact h1 h4
                · exact h3 h4
                · exact hT (decide_eq_true (Or.inl h4))
                · exact hT (decide_eq_true (Or.inr (by rcases h4 with h4 | h4 | h4 <;> simp [h4])))
                · exact hT (decide_eq_true (by simp [h4]))
                · exact hT (decide_eq_true (by simp [h4]))
              · rw [h4] at h0; exact absurd h0 (by decide)
              · rw [h4] at h0; exact absurd h0 (by decide)
              · rw [h4] at h0; exact absurd h0 (by decide)
              · rw [h4] at h0; exact absurd h0 (by decide)
              · rw [h4] at h0; exact absurd h0 (by decide)
              · exact h4 h0
              · exact h4 h0
end VAL
