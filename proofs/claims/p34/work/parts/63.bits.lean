section BIT
/-- a bit, as the class and the model read and write it -/
def hb (x b : Int32) : Int32 := if ((x >>> (b &&& 31)) &&& (1 : Int32)) = (0 : Int32) then 0 else 1
def wb (x b v : Int32) : Int32 := if v = (0 : Int32) then x &&& (((1 : Int32) <<< (b &&& 31)) ^^^ (-1 : Int32)) else x ||| ((1 : Int32) <<< (b &&& 31))
theorem f_hasBit {x b : Int32} : f_X10_hasBit x b = some (0, hb x b, ()) := by
  unfold f_X10_hasBit joinK hb
  dsimp only
  by_cases h : ((x >>> (b &&& 31)) &&& (1 : Int32)) = (0 : Int32)
  · rw [if_pos h, if_pos h]
    rfl
  · rw [if_neg h, if_neg h]
    rfl
theorem f_withBit {x b v : Int32} : f_X10_withBit x b v = some (0, wb x b v, ()) := by
  unfold f_X10_withBit joinK wb
  dsimp only
  by_cases h : v = (0 : Int32)
  · rw [if_pos h, if_pos h]
  · rw [if_neg h, if_neg h]
theorem f_entries {S : jS} {L : jLg} : f_X10_entries S L = some (0, Int32.ofNat L.length, ()) := rfl
/-- a check: in its range, or the first exception -/
theorem f_range {p a b : Int32} : f_X10_checkRange p a b = if a ≤ p ∧ p ≤ b then some (0, 0, ()) else some (1, 0, ()) := by
  unfold f_X10_checkRange joinK
  dsimp only
  by_cases h1 : p < a
  · rw [if_pos h1, if_neg (fun (h : a ≤ p ∧ p ≤ b) => Int32.not_lt.mpr h.1 h1)]
  · rw [if_neg h1]
    by_cases h2 : p ≤ b
    · rw [if_pos h2, if_pos ⟨Int32.not_lt.mp h1, h2⟩]
    · rw [if_neg h2, if_neg (fun h => h2 h.2)]
theorem f_person {p : Int32} : f_X10_checkPerson p = if 0 ≤ p ∧ p ≤ 19 then some (0, 0, ()) else some (1, 0, ()) := by
  unfold f_X10_checkPerson
  rw [f_range]
  by_cases h : (0 : Int32) ≤ p ∧ p ≤ 19
  · rw [if_pos h]
    rfl
  · rw [if_neg h]
    rfl
theorem f_flag {p : Int32} : f_X10_checkFlag p = if 0 ≤ p ∧ p ≤ 7 then some (0, 0, ()) else some (1, 0, ()) := by
  unfold f_X10_checkFlag
  rw [f_range]
  by_cases h : (0 : Int32) ≤ p ∧ p ≤ 7
  · rw [if_pos h]
    rfl
  · rw [if_neg h]
    rfl
theorem f_trial {p : Int32} : f_X10_checkTrial p = if 0 ≤ p ∧ p ≤ 5 then some (0, 0, ()) else some (1, 0, ()) := by
  unfold f_X10_checkTrial
  rw [f_range]
  by_cases h : (0 : Int32) ≤ p ∧ p ≤ 5
  · rw [if_pos h]
    rfl
  · rw [if_neg h]
    rfl
theorem f_audience {p : Int32} : f_X10_checkAudience p = if 0 ≤ p ∧ p ≤ 5 then some (0, 0, ()) else some (1, 0, ()) := by
  unfold f_X10_checkAudience
  rw [f_range]
  by_cases h : (0 : Int32) ≤ p ∧ p ≤ 5
  · rw [if_pos h]
    rfl
  · rw [if_neg h]
    rfl
end BIT
