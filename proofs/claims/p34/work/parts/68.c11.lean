section C11
theorem rg_1 {p a b : Int32} (h : a ≤ p ∧ p ≤ b) : rg p a b = 1 := if_pos h
theorem rg_0 {p a b : Int32} (h : ¬ (a ≤ p ∧ p ≤ b)) : rg p a b = 0 := if_neg h
theorem rg_in {p : Int32} {b : Int32} {n : Nat} (h : 0 ≤ p ∧ p ≤ b) (hb : b.toNatClampNeg < n) : inb p n = true := by
  have h0 : ¬ p < 0 := Int32.not_lt.mpr h.1
  have h1 : p.toNatClampNeg ≤ b.toNatClampNeg := by
    have := Int32.le_iff_toInt_le.mp h.2
    show p.toInt.toNat ≤ b.toInt.toNat
    omega
  unfold inb
  simp only [h0, decide_false, Bool.not_false, Bool.true_and, decide_eq_true_eq]
  omega
theorem f_rules {S : jS} {p : Int32} : f_X10_rules S p = if 0 ≤ p ∧ p ≤ 7 then some (0, S (322 + 3 * p.toNatClampNeg) 2, ()) else some (1, 0, ()) := by
  unfold f_X10_rules
  rw [f_flag]
  by_cases h : (0 : Int32) ≤ p ∧ p ≤ 7
  · rw [if_pos h, if_pos h, jbind_s, chk_t (rg_in h (by decide))]
  · rw [if_neg h, if_neg h]
    rfl
theorem m_rules {S : jS} {p : Int32} : f_X11_rules S p = if 0 ≤ p ∧ p ≤ 7 then some (0, S 372 p.toNatClampNeg, jset S 358 0 0) else some (0, 0, jset S 358 0 1) := by
  unfold f_X11_rules joinK
  rw [m_flag, jbin0_s]
  by_cases h : (0 : Int32) ≤ p ∧ p ≤ 7
  · rw [rg_1 h, if_pos h]
    show jbin0 (f_X11_goesWell S 0) (fun v4 S5 => if v4 = (0 : Int32) then some (0, (0 : Int32), S5) else chk (inb p 8) (some (0, S5 372 p.toNatClampNeg, S5))) = _
    rw [m_well, jbin0_s, if_pos rfl, if_neg (by decide), chk_t (rg_in h (by decide))]
    rfl
  · rw [rg_0 h, if_neg h]
    show jbin0 (f_X11_goesWell S 1) (fun v4 S5 => if v4 = (0 : Int32) then some (0, (0 : Int32), S5) else chk (inb p 8) (some (0, S5 372 p.toNatClampNeg, S5))) = _
    rw [m_well, jbin0_s, if_pos (by decide)]
end C11
