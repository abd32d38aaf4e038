section MEV
def b2i (v : Bool) : Int32 := if v = true then 1 else 0
theorem b2i_0 {v : Bool} : (b2i v = 0) = (v = false) := by cases v <;> decide
theorem b2i_isb {v : Bool} : isb (b2i v) = true := by cases v <;> decide
theorem b2i_inj {v w : Bool} : (b2i v = b2i w) = (v = w) := by cases v <;> cases w <;> decide
theorem nar_b {v : Bool} : vp_nar .boolean (b2i v) = b2i v := by cases v <;> rfl
theorem nar_1 : vp_nar .boolean 1 = 1 := rfl
theorem nar_0 : vp_nar .boolean 0 = 0 := rfl
/-- a rule of the model: its audience, its length, its signs -/
def TxM (S : jS) (a n : Nat) (c : Nat → Int32) : Prop := a < 6 ∧ n ≤ 60 ∧ S 364 a = Int32.ofNat n ∧ ∀ j, j < n → S 363 (60 * a + j) = c j
theorem n32_60 {a i : Nat} : (60 : Int32) * Int32.ofNat a + Int32.ofNat i = Int32.ofNat (60 * a + i) := by
  rw [Int32.ofNat_add, Int32.ofNat_mul]
  rfl
theorem m_signOf {S : jS} {a n i : Nat} {c : Nat → Int32} (h : TxM S a n c) (hi : i ≤ 200) : f_X11_signOf S (Int32.ofNat a) (Int32.ofNat i) = some (0, (if i < n then c i else 0), ()) := by
  obtain ⟨ha, hn, hl, hc⟩ := h
  unfold f_X11_signOf joinK
  dsimp only
  have e : (Int32.ofNat n ≤ Int32.ofNat i) = (n ≤ i) := n32_le (by omega) (by omega)
  rw [chk_t (n32_inb (by omega) ha), n32_cl (by omega), hl]
  simp only [e]
  by_cases h : n ≤ i
  · rw [if_pos h, if_neg (by omega)]
  · rw [if_neg h, if_pos (by omega), n32_60, chk_t (n32_inb (by omega) (by omega)), n32_cl (by omega), hc i (by omega)]
theorem m_numberAt {S : jS} {a n i : Nat} {c : Nat → Int32} (h : TxM S a n c) (hi : i < n) : f_X11_numberAt S (Int32.ofNat a) (Int32.ofNat i) = some (0, num c n i, ()) := by
  have := h.2.1
  unfold f_X11_numberAt joinK letE
  rw [m_signOf h (by omega), jbin0_s]
  dsimp only
  rw [n32_succ, m_signOf h (by omega), jbin0_s, m_digit, jbin0_s, if_pos hi]
  unfold num
  by_cases h1 : i + 1 < n
  · simp only [h1, if_true, true_and]
    by_cases h2 : 48 ≤ c (i + 1) ∧ c (i + 1) ≤ 57
    · rw [rg_1 h2, if_neg (by decide), if_pos h2, Int32.sub_eq_add_neg, Int32.add_assoc, ← Int32.sub_eq_add_neg]
    · rw [rg_0 h2, if_pos rfl, if_neg h2]
  · simp only [h1, if_false, false_and]
    rw [rg_0 (by decide), if_pos rfl]
theorem n32_3 {p k : Nat} : (3 : Int32) * Int32.ofNat p + Int32.ofNat k = Int32.ofNat (3 * p + k) := by
  rw [Int32.ofNat_add, Int32.ofNat_mul]
  rfl
theorem and31 : ∀ d, d < 32 → Int32.ofNat d &&& 31 = Int32.ofNat d := by decide
theorem m_test {S : jS} {a n i p : Nat} {c : Nat → Int32} (hv : Valid c n) (h : TxM S a n c) (hi : i < n) (hp : p < 20) (hT : isT (c i) = true) :
    f_X11_meetsTest S (Int32.ofNat a) (Int32.ofNat i) (Int32.ofNat p) = some (0, b2i (tst (fun p k => S 359 (3 * p + k)) (S 360) (S 367) c n p i), ()) := by
  have hn := h.2.1
  unfold f_X11_meetsTest joinK letE
  rw [m_signOf h (by omega), jbin0_s, n32_succ, m_signOf h (by omega), jbin0_s, if_pos hi]
  dsimp only
  unfold tst
  by_cases a42 : c i = 42
  · rw [if_pos a42, if_pos a42]
    rfl
  rw [if_neg a42, if_neg a42]
  by_cases a116 : c i = 116
  · obtain ⟨h1, h2⟩ := v_tag hv hi a116
    obtain ⟨d, hd, e, e1⟩ := dg_of (m := 7) (by omega) h2
    rw [if_pos a116, if_pos a116, if_pos h1, e, e1, chk_t (n32_inb (by omega) hp), n32_cl (by omega)]
    simp only [m_bit (show d < 32 by omega)]
    cases bt (S 360 p) d <;> rfl
  rw [if_neg a116, if_neg a116]
  by_cases a64 : c i = 64
  · obtain ⟨h1, h2⟩ := v_ref hv hi a64
    obtain ⟨d, hd, e, e1⟩ := dg_of (m := 5) (by omega) h2
    rw [if_pos a64, if_pos a64, if_pos h1, e, e1, chk_t (n32_inb (by omega) (by omega)), n32_cl (by omega)]
    simp only [m_bit (show p < 32 by omega)]
    cases bt (S 367 d) p <;> rfl
  rw [if_neg a64, if_neg a64]
  have hl : c i = 108 ∨ c i = 97 ∨ c i = 112 := by
    rcases of_decide_eq_true hT with e | e | e | e | e | e
    · exact absurd e a42
    · exact Or.inl e
    · exact Or.inr (Or.inl e)
    · exact Or.inr (Or.inr e)
    · exact absurd e a116
    · exact absurd e a64
  obtain ⟨h1, h2, h3⟩ := v_cmp hv hi hl
  rw [if_pos h1]
  have tail : ∀ k, k < 3 → chk (inb ((3 : Int32) * Int32.ofNat p + Int32.ofNat k) 60) (jbin0 (f_X11_numberAt S (Int32.ofNat a) (Int32.ofNat i + (2 : Int32))) (fun v6 _ => (if c (i + 1) = (61 : Int32) then (if S 359 ((3 : Int32) * Int32.ofNat p + Int32.ofNat k).toNatClampNeg = v6 then chk (isb 1) (some ((0 : Nat), (1 : Int32), ())) else chk (isb 0) (some (0, (0 : Int32), ()))) else (if c (i + 1) = (60 : Int32) then (if v6 ≤ S 359 ((3 : Int32) * Int32.ofNat p + Int32.ofNat k).toNatClampNeg then chk (isb 0) (some (0, (0 : Int32), ())) else chk (isb 1) (some (0, (1 : Int32), ()))) else (if S 359 ((3 : Int32) * Int32.ofNat p + Int32.ofNat k).toNatClampNeg ≤ v6 then chk (isb 0) (some (0, (0 : Int32), ())) else chk (isb 1) (some (0, (1 : Int32), ()))))))) = some (0, b2i (cmpB (c (i + 1)) (S 359 (3 * p + k)) (num c n (i + 2))), ()) := fun k hk => by
    rw [n32_3, chk_t (n32_inb (by omega) (by omega)), n32_cl (by omega), show Int32.ofNat i + (2 : Int32) = Int32.ofNat (i + 2) from n32_add 2, m_numberAt h h2, jbin0_s]
    unfold cmpB
    generalize num c n (i + 2) = y
    generalize S 359 (3 * p + k) = x
    by_cases b1 : c (i + 1) = 61
    · simp only [b1, if_true]
      by_cases b2 : x = y <;> simp [b2, chk, isb, b2i]
    · simp only [b1, if_false]
      by_cases b3 : c (i + 1) = 60
      · simp only [b3, if_true]
        by_cases b2 : y ≤ x
        · simp [b2, chk, isb, b2i, Int32.not_lt.mpr b2]
        · simp [b2, chk, isb, b2i, Int32.not_le.mp b2]
      · simp only [b3, if_false]
        by_cases b2 : x ≤ y
        · simp [b2, chk, isb, b2i, Int32.not_lt.mpr b2]
        · simp [b2, chk, isb, b2i, Int32.not_le.mp b2]
  rcases hl with e | e | e
  · rw [if_pos e, if_pos e]
    exact tail 0 (by omega)
  · have e1 : ¬ c i = 108 := by rw [e]; decide
    rw [if_neg e1, if_pos e, if_neg e1, if_pos e]
    exact tail 1 (by omega)
  · have e1 : ¬ c i = 108 := by rw [e]; decide
    have e2 : ¬ c i = 97 := by rw [e]; decide
    rw [if_neg e1, if_neg e2, if_neg e1, if_neg e2]
    exact tail 2 (by omega)
end MEV
