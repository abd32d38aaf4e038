section LEA
theorem n32_inb {i n : Nat} (hi : i ≤ 100000) (h : i < n) : inb (Int32.ofNat i) n = true := by
  unfold inb
  rw [n32_cl hi]
  simp [n32_nn hi, h]
theorem loopK_s {K : Type} (F : K → K) (bot : K) (n : Nat) : loopK F bot (n + 1) = F (loopK F bot n) := rfl
/-- Arrays.fill -/
theorem fill_go {a n : Nat} {p : Int32} (hn : n ≤ 900) : ∀ (k i : Nat) (S : jS) (fuel : Nat), i + k = n → k < fuel →
    loopK (fun (rec2 : jS → Int32 → Option (jR jS)) (S3 : jS) (x4 : Int32) => (if Int32.ofNat n ≤ x4 then some (0, (0 : Int32), S3) else chk (inb x4 n) (letE (jset S3 a x4.toNatClampNeg p) fun S5 => letE (x4 + (1 : Int32)) fun x6 => rec2 S5 x6))) (fun _ _ => none) fuel S (Int32.ofNat i) = some (0, 0, fun q j => if q = a ∧ i ≤ j ∧ j < n then p else S q j)
  | 0, i, S, fuel + 1, h, hf => by
    show (if Int32.ofNat n ≤ Int32.ofNat i then _ else _) = _
    rw [if_pos ((n32_lt6 (by omega) (by omega)).mpr (by omega))]
    refine congrArg (fun T : jS => some ((0 : Nat), (0 : Int32), T)) ?_
    funext q j
    rw [if_neg (by omega)]
  | k + 1, i, S, fuel + 1, h, hf => by
    rw [loopK_s]
    dsimp only [letE]
    rw [if_neg (fun h9 => by have := (n32_lt6 (by omega) (by omega)).mp h9; omega)]
    unfold chk
    rw [if_pos (n32_inb (by omega) (by omega)), n32_succ, n32_cl (by omega)]
    refine Eq.trans (fill_go (a := a) (p := p) hn k (i + 1) (jset S a i p) fuel (by omega) (by omega)) ?_
    refine congrArg (fun T : jS => some ((0 : Nat), (0 : Int32), T)) ?_
    funext q j
    unfold jset upd
    by_cases hq : q = a
    · subst hq
      by_cases hj : j = i
      · subst hj
        rw [if_neg (by omega), if_pos rfl, if_pos rfl, if_pos ⟨rfl, by omega, by omega⟩]
      · rw [if_pos rfl, if_neg hj]
        by_cases h1 : i + 1 ≤ j ∧ j < n
        · rw [if_pos ⟨rfl, h1⟩, if_pos ⟨rfl, by omega, h1.2⟩]
        · rw [if_neg (fun h => h1 h.2), if_neg (fun h => h1 ⟨by omega, h.2.2⟩)]
    · rw [if_neg (fun h => hq h.1), if_neg hq, if_neg (fun h => hq h.1)]
  | 0, _, _, 0, _, hf => absurd hf (Nat.lt_irrefl _)
  | k + 1, _, _, 0, _, hf => absurd hf (Nat.not_lt_zero _)
theorem f_fill {S : jS} {a n : Nat} {p : Int32} (hn : n ≤ 900) : f_J7_fill_53178 S a n p = some (0, 0, fun q j => if q = a ∧ j < n then p else S q j) := by
  refine (fill_go hn n 0 S 1000 (by omega) (by omega)).trans ?_
  refine congrArg (fun T : jS => some ((0 : Nat), (0 : Int32), T)) ?_
  funext q j
  by_cases h : q = a ∧ j < n
  · rw [if_pos ⟨h.1, Nat.zero_le _, h.2⟩, if_pos h]
  · rw [if_neg (fun h9 => h ⟨h9.1, h9.2.2⟩), if_neg h]
end LEA
