section FGT
theorem jbin0_s {α ρ : Type} {v : Int32} {S : α} {k : Int32 → α → Option ρ} : jbin0 (some ((0 : Nat), v, S)) k = k v S := rfl
theorem jbind_s {α β : Type} {v : Int32} {S : α} {k : Int32 → α → Option (jR β)} {kt : Nat → α → Option (jR β)} : jbind (some ((0 : Nat), v, S)) k kt = k v S := rfl
theorem f_forgetTrial {S : jS} {b t : Nat} (ht : t < 6) : f_X5_forgetTrial S b (Int32.ofNat t) = some (0, 0, fun q j => if q = b + 2 + (1 + t) ∧ j < 8 then -1 else if q = b + 1 ∧ j = t then -1 else S q j) := by
  unfold f_X5_forgetTrial chk
  rw [if_pos (n32_inb (by omega) ht), n32_cl (by omega)]
  dsimp only [letE]
  rw [if_pos (n32_inb (by omega) ht), f_fill (by omega)]
  refine congrArg (fun T : jS => some ((0 : Nat), (0 : Int32), T)) ?_
  funext q j
  unfold jset upd
  by_cases h1 : q = b + 2 + (1 + t) ∧ j < 8
  · rw [if_pos h1, if_pos h1]
  · rw [if_neg h1, if_neg h1]
    by_cases h2 : q = b + 1
    · rw [if_pos h2]
      by_cases h3 : j = t
      · rw [if_pos h3, if_pos ⟨h2, h3⟩]
      · rw [if_neg h3, if_neg (fun h => h3 h.2), h2]
    · rw [if_neg h2, if_neg (fun h => h2 h.1)]
/-- the three arrays of a past, laid anew -/
def fg3 (b : Nat) (S : jS) : jS := fun q j => if q = b + 11 ∧ j < 8 then 0 else if q = b + 10 ∧ j < 8 then 0 else if q = b + 9 ∧ j < 8 then -1 else S q j
/-- a past's arms and rows, forgotten from trial i on -/
def fg1 (b i : Nat) (S : jS) : jS := fun q j => if (b + 3 + i ≤ q ∧ q < b + 9 ∧ j < 8) ∨ (q = b + 1 ∧ i ≤ j ∧ j < 6) then -1 else S q j
theorem forget_go {b : Nat} : ∀ (k i : Nat) (S : jS) (fuel : Nat), i + k = 6 → k < fuel →
    loopK (fun (rec1 : jS → Int32 → Option (jR jS)) (S2 : jS) (x3 : Int32) => (if (6 : Int32) ≤ x3 then jbin0 (f_J7_fill_53178 S2 (b + 9) 8 (-1 : Int32)) (fun _ S4 => jbin0 (f_J7_fill_53178 S4 (b + 10) 8 (0 : Int32)) (fun _ S5 => jbin0 (f_J7_fill_53178 S5 (b + 11) 8 (0 : Int32)) (fun _ S6 => some (0, (0 : Int32), S6)))) else jbin0 (f_X5_forgetTrial S2 b x3) (fun _ S16 => letE (x3 + (1 : Int32)) fun x17 => rec1 S16 x17))) (fun _ _ => none) fuel S (Int32.ofNat i) = some (0, 0, fg3 b (fg1 b i S))
  | 0, i, S, fuel + 1, h, hf => by
    have hi : i = 6 := by omega
    subst hi
    rw [loopK_s]
    dsimp only [letE]
    rw [if_pos (by decide), f_fill (by omega)]
    rw [jbin0_s, f_fill (by omega)]
    rw [jbin0_s, f_fill (by omega), jbin0_s]
    refine congrArg (fun T : jS => some ((0 : Nat), (0 : Int32), T)) ?_
    funext q j
    unfold fg3 fg1
    by_cases h1 : q = b + 11 ∧ j < 8
    · rw [if_pos h1, if_pos h1]
    · rw [if_neg h1, if_neg h1]
      by_cases h2 : q = b + 10 ∧ j < 8
      · rw [if_pos h2, if_pos h2]
      · rw [if_neg h2, if_neg h2]
        by_cases h3 : q = b + 9 ∧ j < 8
        · rw [if_pos h3, if_pos h3]
        · rw [if_neg h3, if_neg h3, if_neg (by omega)]
  | k + 1, i, S, fuel + 1, h, hf => by
    rw [loopK_s]
    dsimp only [letE]
    rw [if_neg (fun h9 => by have := (n32_lt6 (i := i) (n := 6) (by omega) (by omega)).mp h9; omega), f_forgetTrial (by omega)]
    rw [jbin0_s, n32_succ]
    refine Eq.trans (forget_go (b := b) k (i + 1) _ fuel (by omega) (by omega)) ?_
    refine congrArg (fun T : jS => some ((0 : Nat), (0 : Int32), fg3 b T)) ?_
    funext q j
    unfold fg1
    by_cases h1 : (b + 3 + (i + 1) ≤ q ∧ q < b + 9 ∧ j < 8) ∨ (q = b + 1 ∧ i + 1 ≤ j ∧ j < 6)
    · rw [if_pos h1, if_pos (by omega)]
    · rw [if_neg h1]
      dsimp only
      by_cases h2 : q = b + 2 + (1 + i) ∧ j < 8
      · rw [if_pos h2, if_pos (by omega)]
      · rw [if_neg h2]
        by_cases h3 : q = b + 1 ∧ j = i
        · rw [if_pos h3, if_pos (by omega)]
        · rw [if_neg h3, if_neg (by omega)]
  | 0, _, _, 0, _, hf => absurd hf (Nat.lt_irrefl _)
  | k + 1, _, _, 0, _, hf => absurd hf (Nat.not_lt_zero _)
theorem f_forget {S : jS} {b : Nat} : f_X5_forget S b = some (0, 0, fg3 b (fg1 b 0 S)) := forget_go 6 0 S 1000 (by omega) (by omega)
end FGT
