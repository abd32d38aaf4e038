section EVA
def ubd (f : Nat → Bool) (k : Nat) (v : Bool) : Nat → Bool := fun j => if j = k then v else f j
/-- a sign that begins a test -/
def isT (x : Int32) : Bool := decide (x = 42 ∨ x = 108 ∨ x = 97 ∨ x = 112 ∨ x = 116 ∨ x = 64)
/-- a rule, read by one person: how deep, the terms met, the factors met, turned -/
def em (T : Nat → Bool) (c : Nat → Int32) : Nat → Nat × (Nat → Bool) × (Nat → Bool) × (Nat → Bool)
  | 0 => (0, fun _ => false, fun _ => true, fun _ => false)
  | i + 1 =>
    if isT (c i) = true then ((em T c i).1, (em T c i).2.1, ubd (em T c i).2.2.1 (em T c i).1 ((em T c i).2.2.1 (em T c i).1 && (T i != (em T c i).2.2.2 (em T c i).1)), ubd (em T c i).2.2.2 (em T c i).1 false)
    else if c i = 33 then ((em T c i).1, (em T c i).2.1, (em T c i).2.2.1, ubd (em T c i).2.2.2 (em T c i).1 (!(em T c i).2.2.2 (em T c i).1))
    else if c i = 124 then ((em T c i).1, ubd (em T c i).2.1 (em T c i).1 ((em T c i).2.1 (em T c i).1 || (em T c i).2.2.1 (em T c i).1), ubd (em T c i).2.2.1 (em T c i).1 true, (em T c i).2.2.2)
    else if c i = 40 then ((em T c i).1 + 1, ubd (em T c i).2.1 ((em T c i).1 + 1) false, ubd (em T c i).2.2.1 ((em T c i).1 + 1) true, ubd (em T c i).2.2.2 ((em T c i).1 + 1) false)
    else if c i = 41 then ((em T c i).1 - 1, (em T c i).2.1, ubd (em T c i).2.2.1 ((em T c i).1 - 1) ((em T c i).2.2.1 ((em T c i).1 - 1) && (((em T c i).2.1 (em T c i).1 || (em T c i).2.2.1 (em T c i).1) != (em T c i).2.2.2 ((em T c i).1 - 1))), ubd (em T c i).2.2.2 ((em T c i).1 - 1) false)
    else em T c i
def ev (T : Nat → Bool) (c : Nat → Int32) (n : Nat) : Bool := decide (0 < n) && ((em T c n).2.1 0 || (em T c n).2.2.1 0)
theorem em_cong {T T1 : Nat → Bool} {c c1 : Nat → Int32} : ∀ n, (∀ i, i < n → c i = c1 i) → (∀ i, i < n → isT (c i) = true → T i = T1 i) → em T c n = em T1 c1 n
  | 0, _, _ => rfl
  | n + 1, hc, hT => by
    have ih := em_cong n (fun i hi => hc i (by omega)) (fun i hi => hT i (by omega))
    have e := hc n (by omega)
    show (if isT (c n) = true then _ else _) = (if isT (c1 n) = true then _ else _)
    rw [ih, ← e]
    by_cases h : isT (c n) = true
    · rw [if_pos h, if_pos h, hT n (by omega) h]
    · rw [if_neg h, if_neg h]
theorem ev_cong {T T1 : Nat → Bool} {c c1 : Nat → Int32} {n : Nat} (hc : ∀ i, i < n → c i = c1 i) (hT : ∀ i, i < n → isT (c i) = true → T i = T1 i) : ev T c n = ev T1 c1 n := by
  unfold ev
  rw [em_cong n hc hT]
/-- how deep it is: as many brackets as are open -/
theorem em_d {T : Nat → Bool} {c : Nat → Int32} : ∀ i, (em T c i).1 = (rd c i).2
  | 0 => rfl
  | i + 1 => by
    have ih := em_d (T := T) (c := c) i
    rw [rd_2, ← ih]
    show (if isT (c i) = true then _ else _ : Nat × (Nat → Bool) × (Nat → Bool) × (Nat → Bool)).1 = _
    by_cases h : isT (c i) = true
    · have h40 : c i ≠ 40 := fun e => by rw [e] at h; exact absurd h (by decide)
      have h41 : c i ≠ 41 := fun e => by rw [e] at h; exact absurd h (by decide)
      rw [if_pos h, if_neg h40, if_neg h41]
    · rw [if_neg h]
      by_cases h1 : c i = 33
      · rw [if_pos h1, if_neg (by rw [h1]; decide), if_neg (by rw [h1]; decide)]
      · rw [if_neg h1]
        by_cases h2 : c i = 124
        · rw [if_pos h2, if_neg (by rw [h2]; decide), if_neg (by rw [h2]; decide)]
        · rw [if_neg h2]
          by_cases h3 : c i = 40
          · rw [if_pos h3, if_pos h3]
          · rw [if_neg h3, if_neg h3]
            by_cases h4 : c i = 41
            · rw [if_pos h4, if_pos h4]
            · rw [if_neg h4, if_neg h4]
/-- the number at a place of a text -/
def num (c : Nat → Int32) (n i : Nat) : Int32 := if i + 1 < n ∧ (48 ≤ c (i + 1) ∧ c (i + 1) ≤ 57) then 10 * (c i - 48) + (c (i + 1) - 48) else c i - 48
def dgt (x : Int32) : Nat := (x - 48).toNatClampNeg
def cmpB (r x y : Int32) : Bool := if r = 61 then decide (x = y) else if r = 60 then decide (x < y) else decide (y < x)
/-- whether a person meets the test at sign i -/
def tst (ats : Nat → Nat → Int32) (tgs mb : Nat → Int32) (c : Nat → Int32) (n p i : Nat) : Bool :=
  if c i = 42 then true else if c i = 116 then bt (tgs p) (dgt (c (i + 1))) else if c i = 64 then bt (mb (dgt (c (i + 1)))) p
  else cmpB (c (i + 1)) (ats p (if c i = 108 then 0 else if c i = 97 then 1 else 2)) (num c n (i + 2))
/-- digits -/
theorem dg_of {x : Int32} {m : Nat} (hm : m ≤ 9) (h : 48 ≤ x ∧ x ≤ Int32.ofNat (48 + m)) : ∃ d, d ≤ m ∧ x - 48 = Int32.ofNat d ∧ dgt x = d := by
  have h1 := Int32.le_iff_toInt_le.mp h.1
  have h2 := Int32.le_iff_toInt_le.mp h.2
  rw [Int32.toInt_ofNat_of_lt (by omega)] at h2
  have h3 : (48 : Int32).toInt = 48 := rfl
  rw [h3] at h1
  obtain ⟨k, hk⟩ : ∃ k : Nat, x.toInt = (48 + k : Nat) := ⟨(x.toInt - 48).toNat, by omega⟩
  have hx : x = Int32.ofNat (48 + k) := by
    refine Int32.toInt_inj.mp ?_
    rw [Int32.toInt_ofNat_of_lt (by omega), hk]
  have e : x - 48 = Int32.ofNat k := by
    rw [hx, Nat.add_comm, Int32.ofNat_add]
    exact Int32.add_sub_cancel _ _
  refine ⟨k, by omega, e, ?_⟩
  unfold dgt
  rw [e, n32_cl (by omega)]
end EVA
