section BT
/-- a bit of a word -/
def bt (w : Int32) (i : Nat) : Bool := w.toBitVec.getLsbD i
theorem bt_ext {x y : Int32} (h : ∀ j, j < 32 → bt x j = bt y j) : x = y := Int32.toBitVec_inj.mp (BitVec.eq_of_getLsbD_eq fun j hj => h j hj)
theorem bt_or {x y : Int32} {j : Nat} : bt (x ||| y) j = (bt x j || bt y j) := by
  unfold bt
  rw [Int32.toBitVec_or, BitVec.getLsbD_or]
theorem bt_and {x y : Int32} {j : Nat} : bt (x &&& y) j = (bt x j && bt y j) := by
  unfold bt
  rw [Int32.toBitVec_and, BitVec.getLsbD_and]
theorem bt_xor {x y : Int32} {j : Nat} : bt (x ^^^ y) j = (bt x j != bt y j) := by
  unfold bt
  rw [Int32.toBitVec_xor, BitVec.getLsbD_xor]
theorem bt_0 {j : Nat} : bt 0 j = false := by
  unfold bt
  exact BitVec.getLsbD_zero
theorem bt_m1 : ∀ j, j < 32 → bt (-1) j = true := by decide
theorem bt_not {x : Int32} {j : Nat} (hj : j < 32) : bt (x ^^^ (-1 : Int32)) j = !bt x j := by
  rw [bt_xor, bt_m1 j hj]
  cases bt x j <;> rfl
theorem bt_shl0 : ∀ i, i < 32 → ∀ j, j < 32 → bt ((1 : Int32) <<< (Int32.ofNat i &&& 31)) j = decide (j = i) := by decide +kernel
theorem bt_shl {i j : Nat} (hi : i < 32) (hj : j < 32) : bt ((1 : Int32) <<< (Int32.ofNat i &&& 31)) j = decide (j = i) := bt_shl0 i hi j hj
theorem bt_every0 : ∀ j, j < 32 → bt 1048575 j = decide (j < 20) := by decide
theorem bt_every {j : Nat} (hj : j < 32) : bt 1048575 j = decide (j < 20) := bt_every0 j hj
theorem bt_one0 : ∀ j, j < 32 → bt 1 j = decide (j = 0) := by decide
theorem sm_amt : ∀ i, i < 32 → (Int32.ofNat i &&& 31).toBitVec.smod 32#32 = BitVec.ofNat 32 i := by decide
theorem bt_shr {x : Int32} {i j : Nat} (hi : i < 32) (hj : i + j < 32) : bt (x >>> (Int32.ofNat i &&& 31)) j = bt x (i + j) := by
  unfold bt
  rw [Int32.toBitVec_shiftRight]
  have e := sm_amt i hi
  have e1 : x.toBitVec.sshiftRight' ((Int32.ofNat i &&& 31).toBitVec.smod 32) = x.toBitVec.sshiftRight i := by
    rw [show ((Int32.ofNat i &&& 31).toBitVec.smod 32) = BitVec.ofNat 32 i from e]
    unfold BitVec.sshiftRight'
    rw [BitVec.toNat_ofNat, Nat.mod_eq_of_lt (by omega)]
  rw [e1, BitVec.getLsbD_sshiftRight]
  simp [show ¬ 32 ≤ j by omega, hj]
theorem and1_0 {x : Int32} : (x &&& 1 = 0) ↔ bt x 0 = false := by
  constructor
  · intro h
    have := congrArg (fun w => bt w 0) h
    simp only [bt_and, bt_one0 0 (by omega), bt_0] at this
    simpa using this
  · intro h
    refine bt_ext fun j hj => ?_
    rw [bt_and, bt_one0 j hj, bt_0]
    by_cases hj0 : j = 0
    · subst hj0
      rw [h]
      rfl
    · simp [hj0]
theorem and1_1 {x : Int32} : (x &&& 1 = 1) ↔ bt x 0 = true := by
  constructor
  · intro h
    have := congrArg (fun w => bt w 0) h
    simp only [bt_and, bt_one0 0 (by omega)] at this
    simpa using this
  · intro h
    refine bt_ext fun j hj => ?_
    rw [bt_and, bt_one0 j hj]
    by_cases hj0 : j = 0
    · subst hj0
      rw [h]
      rfl
    · simp [hj0]
/-- the model's reading of a bit -/
theorem m_bit {x : Int32} {i : Nat} (hi : i < 32) : ((x >>> (Int32.ofNat i &&& 31)) &&& (1 : Int32) = 1) = (bt x i = true) := by
  rw [propext and1_1, bt_shr hi (by omega), Nat.add_zero]
theorem m_bit0 {x : Int32} {i : Nat} (hi : i < 32) : ((x >>> (Int32.ofNat i &&& 31)) &&& (1 : Int32) = 0) = (bt x i = false) := by
  rw [propext and1_0, bt_shr hi (by omega), Nat.add_zero]
theorem hb_bt {x : Int32} {i : Nat} (hi : i < 32) : hb x (Int32.ofNat i) = if bt x i = true then 1 else 0 := by
  unfold hb
  simp only [m_bit0 hi]
  cases bt x i <;> rfl
theorem hb_isb {x b : Int32} : isb (hb x b) = true := by
  unfold hb
  by_cases h : ((x >>> (b &&& 31)) &&& (1 : Int32)) = (0 : Int32)
  · rw [if_pos h]
    rfl
  · rw [if_neg h]
    rfl
theorem wb_bt {x v : Int32} {i j : Nat} (hi : i < 32) (hj : j < 32) : bt (wb x (Int32.ofNat i) v) j = if j = i then decide (v ≠ 0) else bt x j := by
  unfold wb
  by_cases h : v = 0
  · rw [if_pos h, bt_and, bt_not hj, bt_shl hi hj]
    by_cases hji : j = i <;> simp [hji, h]
  · rw [if_neg h, bt_or, bt_shl hi hj]
    by_cases hji : j = i <;> simp [hji, h]
/-- a word of n bits -/
def bits (n : Nat) (w : Int32) : Prop := ∀ j, n ≤ j → j < 32 → bt w j = false
theorem bits_0 {n : Nat} : bits n 0 := fun _ _ _ => bt_0
theorem bits_wb {n i : Nat} {x v : Int32} (h : bits n x) (hi : i < n) (hn : n ≤ 32) : bits n (wb x (Int32.ofNat i) v) := fun j h1 h2 => by
  rw [wb_bt (by omega) h2, if_neg (by omega)]
  exact h j h1 h2
theorem bits_or {n : Nat} {x y : Int32} (h : bits n x) (h1 : bits n y) : bits n (x ||| y) := fun j h2 h3 => by
  rw [bt_or, h j h2 h3, h1 j h2 h3]
  rfl
theorem bits_xor {n : Nat} {x y : Int32} (h : bits n x) (h1 : bits n y) : bits n (x ^^^ y) := fun j h2 h3 => by
  rw [bt_xor, h j h2 h3, h1 j h2 h3]
  rfl
theorem bits_and {n : Nat} {x y : Int32} (h : bits n x) : bits n (x &&& y) := fun j h2 h3 => by
  rw [bt_and, h j h2 h3]
  rfl
theorem bits_ext {n : Nat} {x y : Int32} (h : bits n x) (h1 : bits n y) (h2 : ∀ j, j < n → bt x j = bt y j) : x = y := bt_ext fun j hj => by
  by_cases hn : j < n
  · exact h2 j hn
  · rw [h j (by omega) hj, h1 j (by omega) hj]
end BT
