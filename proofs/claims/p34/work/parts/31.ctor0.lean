section CT0
/-- all zeros -/
abbrev zS : jS := fun _ _ => 0
/-- e2 is had, e1 is wanted: the same, or arrays of references that are the same below their length -/
def eqC (e1 e2 : va_E) : Prop := e1 = e2 ∨ ∃ (c : ClassId) (n : Nat) (f g : Nat → Option Nat), e1 = .inl (c, n, .inr (.inr (.inr (.inr f)))) ∧ e2 = .inl (c, n, .inr (.inr (.inr (.inr g)))) ∧ ∀ i, i < n → f i = g i
theorem arrV_ext {c : ClassId} {n : Nat} {f g : Nat → Value} (h : ∀ i, i < n → f i = g i) : arrV c n f = arrV c n g := by
  unfold arrV
  congr 2
  funext j
  exact h _ j.isLt
theorem eqC.at {D : va_G} {H : Heap} {a : Nat} {e1 e2 : va_E} (h : eqC e1 e2) (h2 : va_at D vwCl (a, e2) H) : va_at D vwCl (a, e1) H := by
  rcases h with rfl | ⟨c, n, f, g, rfl, rfl, hfg⟩
  · exact h2
  · refine (show H[a]? = _ from h2).trans (congrArg some ?_)
    rw [vp_cell_q, vp_cell_q]
    exact arrV_ext (fun i hi => by rw [hfg i hi])
theorem jUp_at {M : jMem} {a q : Nat} {e : va_E} (h : q = a) : jUp M a e q = some e := if_pos h
theorem jRows_in {M : jMem} {h N q : Nat} {e : va_E} (hq : h ≤ q ∧ q < h + N) : jRows M h N e q = some e := if_pos hq
theorem jRows_out {M : jMem} {h N q : Nat} {e : va_E} (hq : q < h ∨ h + N ≤ q) : jRows M h N e q = M q := if_neg (by omega)
section
variable {κ : jCx} {own : String} {cc : ByteArray} {nL : Nat} {ret : Option FieldType} {R : Room} {ρ : Type} {Qf : ρ → State → Prop} {o : Option ρ} {M : jMem} {z : Nat → Prop} {bc bs : Nat} {lv : List (Nat × Value)} {pc : Nat} {st : List Value}
theorem j_memE {M1 : jMem} (h : ∀ a e, M1 a = some e → ∃ e2, M a = some e2 ∧ eqC e e2) (k : J κ nL R Qf o M1 z bc bs lv pc st) : J κ nL R Qf o M z bc bs lv pc st := fun r ho H locs cells slots ls h1 => k r ho H locs cells slots ls (fun a e he => by
  obtain ⟨e2, g1, g2⟩ := h a e he
  exact g2.at (h1 a e2 g1))
end
/-- the cells one by one -/
theorem mem_cells {D : va_G} {B b w : Nat} {S : jS} {Mx M : jMem} (hin : ∀ j, j < w → kd (b + j) ≠ 0 → ∃ e2, Mx (B + (b + j)) = some e2 ∧ eqC (cellK D B (b + j) (kd (b + j)) (S (b + j))) e2) (hout : ∀ a e, M a = some e → (a < B + b ∨ B + (b + w) ≤ a ∨ kd (a - B) = 0) → ∃ e2, Mx a = some e2 ∧ eqC e e2) :
    ∀ a e, memG b (b + w) D B S M a = some e → ∃ e2, Mx a = some e2 ∧ eqC e e2 := by
  intro a e he
  unfold memG at he
  by_cases hc : B + b ≤ a ∧ a < B + (b + w) ∧ kd (a - B) ≠ 0
  · rw [if_pos hc] at he
    cases he
    have := hin (a - B - b) (by omega)
    rw [show b + (a - B - b) = a - B by omega, show B + (a - B) = a by omega] at this
    exact this hc.2.2
  · rw [if_neg hc] at he
    refine hout a e he ?_
    by_cases h1 : kd (a - B) = 0
    · exact Or.inr (Or.inr h1)
    · rcases Nat.lt_or_ge a (B + b) with q | q
      · exact Or.inl q
      · exact Or.inr (Or.inl (Nat.le_of_not_lt fun q2 => hc ⟨q, q2, h1⟩))
theorem kIn.to {lo hi lo' hi' k κ : Nat} (h : kIn lo hi k κ) (h1 : lo' ≤ k) (h2 : k < hi') : kIn lo' hi' k κ := ⟨h1, h2, h.2.2⟩
/-- the zeros, but a trial that no one has stopped -/
def tS (b : Nat) : jS := fun k i => if k = b ∧ i = 2 then -1 else 0
end CT0
