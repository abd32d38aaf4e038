section CLS
theorem jcat_0 {α ρ : Type} {v : Int32} {S : α} {k : Int32 → α → Option ρ} {kc : Nat → α → Option ρ} : jcat (some ((0 : Nat), v, S)) k kc = k v S := rfl
theorem jcat_t {α ρ : Type} {t : Nat} {v : Int32} {S : α} {k : Int32 → α → Option ρ} {kc : Nat → α → Option ρ} : jcat (some (t + 1, v, S)) k kc = kc (t + 1) S := rfl
theorem jbind_t {α β : Type} {t : Nat} {v : Int32} {S : α} {k : Int32 → α → Option (jR β)} {kt : Nat → α → Option (jR β)} : jbind (some (t + 1, v, S)) k kt = kt (t + 1) S := rfl
theorem n32_add {i : Nat} (j : Nat) : Int32.ofNat i + Int32.ofNat j = Int32.ofNat (i + j) := (Int32.ofNat_add i j).symm
theorem scr_1 {N i : Nat} (h : i + 6 ≤ N) (hN : N ≤ 3072) : inb (Int32.ofNat i + (1 : Int32)) N = true := by
  rw [show (1 : Int32) = Int32.ofNat 1 from rfl, n32_add]
  exact n32_inb (by omega) (by omega)
theorem scr_2 {N i : Nat} (h : i + 6 ≤ N) (hN : N ≤ 3072) : inb (Int32.ofNat i + (2 : Int32)) N = true := by
  rw [show (2 : Int32) = Int32.ofNat 2 from rfl, n32_add]
  exact n32_inb (by omega) (by omega)
theorem scr_3 {N i : Nat} (h : i + 6 ≤ N) (hN : N ≤ 3072) : inb (Int32.ofNat i + (3 : Int32)) N = true := by
  rw [show (3 : Int32) = Int32.ofNat 3 from rfl, n32_add]
  exact n32_inb (by omega) (by omega)
theorem scr_4 {N i : Nat} (h : i + 6 ≤ N) (hN : N ≤ 3072) : inb (Int32.ofNat i + (4 : Int32)) N = true := by
  rw [show (4 : Int32) = Int32.ofNat 4 from rfl, n32_add]
  exact n32_inb (by omega) (by omega)
theorem scr_5 {N i : Nat} (h : i + 6 ≤ N) (hN : N ≤ 3072) : inb (Int32.ofNat i + (5 : Int32)) N = true := by
  rw [show (5 : Int32) = Int32.ofNat 5 from rfl, n32_add]
  exact n32_inb (by omega) (by omega)
theorem scr_0 {N i : Nat} (h : i + 6 ≤ N) (hN : N ≤ 3072) : inb (Int32.ofNat i) N = true := n32_inb (by omega) (by omega)
/-- what is behind a call of both, in every case of the law but 29 -/
theorem both_ok {v : Int32} {S1 : jLS} {SM1 : jS} {c : Int64} {rec : jS → jLg → (Nat → Int64) → jS → Option Int32} (ht : SM1 358 0 = v) (hv : v = 0 → S1.2.2 0 = c) :
    jbin0 (f_X11_thrown SM1) (fun v3 _ => if v3 = v then (if v = 0 then (if S1.2.2 0 = c then rec S1.1 S1.2.1 S1.2.2 SM1 else none) else rec S1.1 S1.2.1 S1.2.2 SM1) else none) = rec S1.1 S1.2.1 S1.2.2 SM1 := by
  rw [m_thrown, jbin0_s, if_pos ht]
  by_cases h : v = 0
  · rw [if_pos h, if_pos (hv h)]
  · rw [if_neg h]
end CLS
