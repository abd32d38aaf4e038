section MCK
/-- 1 where p is from a to b, else 0 -/
def rg (p a b : Int32) : Int32 := if a ≤ p ∧ p ≤ b then 1 else 0
theorem rg_isb {p a b : Int32} : isb (rg p a b) = true := by
  unfold rg
  by_cases h : a ≤ p ∧ p ≤ b
  · rw [if_pos h]
    rfl
  · rw [if_neg h]
    rfl
theorem chk_t {α : Type} {b : Bool} {o : Option α} (h : b = true) : chk b o = o := if_pos h
theorem m_in {p a b : Int32} : f_X11_in p a b = some (0, rg p a b, ()) := by
  unfold f_X11_in joinK rg
  dsimp only
  by_cases h1 : p < a
  · rw [if_pos h1, if_neg (fun (h : a ≤ p ∧ p ≤ b) => Int32.not_lt.mpr h.1 h1)]
    rfl
  · rw [if_neg h1]
    by_cases h2 : b < p
    · rw [if_pos h2, if_neg (fun (h : a ≤ p ∧ p ≤ b) => Int32.not_lt.mpr h.2 h2)]
      rfl
    · rw [if_neg h2, if_pos ⟨Int32.not_lt.mp h1, Int32.not_lt.mp h2⟩]
      rfl
theorem m_person {p : Int32} : f_X11_isPerson p = some (0, rg p 0 19, ()) := by
  unfold f_X11_isPerson
  rw [m_in, jbin0_s, chk_t rg_isb]
theorem m_audience {p : Int32} : f_X11_isAudience p = some (0, rg p 0 5, ()) := by
  unfold f_X11_isAudience
  rw [m_in, jbin0_s, chk_t rg_isb]
theorem m_flag {p : Int32} : f_X11_isFlag p = some (0, rg p 0 7, ()) := by
  unfold f_X11_isFlag
  rw [m_in, jbin0_s, chk_t rg_isb]
theorem m_trial {p : Int32} : f_X11_isTrial p = some (0, rg p 0 5, ()) := by
  unfold f_X11_isTrial
  rw [m_in, jbin0_s, chk_t rg_isb]
theorem m_variant {p : Int32} : f_X11_isVariant p = some (0, rg p 0 3, ()) := by
  unfold f_X11_isVariant
  rw [m_in, jbin0_s, chk_t rg_isb]
/-- the model says whether it throws -/
theorem m_well {S : jS} {t : Int32} : f_X11_goesWell S t = some (0, (if t = 0 then 1 else 0), jset S 358 0 t) := by
  unfold f_X11_goesWell joinK letE
  dsimp only
  by_cases h : t = (0 : Int32)
  · rw [if_pos h, if_pos h]
    rfl
  · rw [if_neg h, if_neg h]
    rfl
theorem m_entries {S : jS} : f_X11_entries S = some (0, S 358 30, jset S 358 0 0) := rfl
theorem m_thrown {S : jS} : f_X11_thrown S = some (0, S 358 0, ()) := rfl
theorem f_most {p : Int32} : f_X10_mostOf p = some (0, (if p = 0 then 9 else if p = 1 then 99 else 3), ()) := by
  unfold f_X10_mostOf joinK
  dsimp only
  by_cases h : p = (0 : Int32)
  · rw [if_pos h, if_pos h]
  · rw [if_neg h, if_neg h]
    by_cases h1 : p = (1 : Int32)
    · rw [if_pos h1, if_pos h1]
    · rw [if_neg h1, if_neg h1]
end MCK
