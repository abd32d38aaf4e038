section TRN2
/-- class and model agree: the same answer, or the same exception; and I holds of what is behind -/
def AG {σ : Type} (oc : Option (jR σ)) (c1 c2 c3 : Int32) (om : Option (jR jS)) (I : σ → jS → Prop) : Prop :=
  (∃ v S1 SM1, oc = some (0, v, S1) ∧ om = some (0, v, SM1) ∧ SM1 358 0 = 0 ∧ I S1 SM1) ∨
  (∃ v v2 S1 SM1, oc = some (1, v, S1) ∧ om = some (0, v2, SM1) ∧ SM1 358 0 = c1 ∧ c1 ≠ 0 ∧ I S1 SM1) ∨
  (∃ v v2 S1 SM1, oc = some (2, v, S1) ∧ om = some (0, v2, SM1) ∧ SM1 358 0 = c2 ∧ c2 ≠ 0 ∧ I S1 SM1) ∨
  (∃ v v2 S1 SM1, oc = some (3, v, S1) ∧ om = some (0, v2, SM1) ∧ SM1 358 0 = c3 ∧ c3 ≠ 0 ∧ I S1 SM1)
/-- the same of a call that changes something: its answer isn't -99999 -/
def AGv {σ : Type} (oc : Option (jR σ)) (c1 c2 c3 : Int32) (om : Option (jR jS)) (I : σ → jS → Prop) : Prop :=
  (∃ v S1 SM1, oc = some (0, v, S1) ∧ om = some (0, v, SM1) ∧ SM1 358 0 = 0 ∧ I S1 SM1 ∧ v ≠ -99999) ∨
  (∃ v v2 S1 SM1, oc = some (1, v, S1) ∧ om = some (0, v2, SM1) ∧ SM1 358 0 = c1 ∧ c1 ≠ 0 ∧ I S1 SM1) ∨
  (∃ v v2 S1 SM1, oc = some (2, v, S1) ∧ om = some (0, v2, SM1) ∧ SM1 358 0 = c2 ∧ c2 ≠ 0 ∧ I S1 SM1) ∨
  (∃ v v2 S1 SM1, oc = some (3, v, S1) ∧ om = some (0, v2, SM1) ∧ SM1 358 0 = c3 ∧ c3 ≠ 0 ∧ I S1 SM1)
theorem AGv_ok {σ : Type} {oc : Option (jR σ)} {c1 c2 c3 : Int32} {om : Option (jR jS)} {I : σ → jS → Prop} {v : Int32} {S1 : σ} {SM1 : jS} (h1 : oc = some (0, v, S1)) (h2 : om = some (0, v, SM1)) (h3 : SM1 358 0 = 0) (h4 : I S1 SM1) (h5 : v ≠ -99999) : AGv oc c1 c2 c3 om I := Or.inl ⟨v, S1, SM1, h1, h2, h3, h4, h5⟩
theorem AGv_1 {σ : Type} {oc : Option (jR σ)} {c1 c2 c3 : Int32} {om : Option (jR jS)} {I : σ → jS → Prop} {v v2 : Int32} {S1 : σ} {SM1 : jS} (h1 : oc = some (1, v, S1)) (h2 : om = some (0, v2, SM1)) (h3 : SM1 358 0 = c1) (hc : c1 ≠ 0) (h4 : I S1 SM1) : AGv oc c1 c2 c3 om I := Or.inr (Or.inl ⟨v, v2, S1, SM1, h1, h2, h3, hc, h4⟩)
theorem AGv_2 {σ : Type} {oc : Option (jR σ)} {c1 c2 c3 : Int32} {om : Option (jR jS)} {I : σ → jS → Prop} {v v2 : Int32} {S1 : σ} {SM1 : jS} (h1 : oc = some (2, v, S1)) (h2 : om = some (0, v2, SM1)) (h3 : SM1 358 0 = c2) (hc : c2 ≠ 0) (h4 : I S1 SM1) : AGv oc c1 c2 c3 om I := Or.inr (Or.inr (Or.inl ⟨v, v2, S1, SM1, h1, h2, h3, hc, h4⟩))
theorem AGv_3 {σ : Type} {oc : Option (jR σ)} {c1 c2 c3 : Int32} {om : Option (jR jS)} {I : σ → jS → Prop} {v v2 : Int32} {S1 : σ} {SM1 : jS} (h1 : oc = some (3, v, S1)) (h2 : om = some (0, v2, SM1)) (h3 : SM1 358 0 = c3) (hc : c3 ≠ 0) (h4 : I S1 SM1) : AGv oc c1 c2 c3 om I := Or.inr (Or.inr (Or.inr ⟨v, v2, S1, SM1, h1, h2, h3, hc, h4⟩))
theorem n32_big {m : Nat} (h : m ≤ 1000000) : Int32.ofNat m ≠ -99999 := fun e => by
  have h1 := congrArg Int32.toInt e
  rw [Int32.toInt_ofNat_of_lt (by omega)] at h1
  have h2 : (-99999 : Int32).toInt = -99999 := by decide
  omega
theorem hb_big {x b : Int32} : hb x b ≠ -99999 := by
  unfold hb
  split <;> decide
theorem cntB_le9 {q : Nat → Bool} : ∀ {n : Nat}, cntB q n ≤ n
  | 0 => Nat.le_refl _
  | n + 1 => by
    have ih := cntB_le9 (q := q) (n := n)
    show cntB q n + _ ≤ n + 1
    split <;> omega
theorem b2i_big {b : Bool} : b2i b ≠ -99999 := by cases b <;> decide
end TRN2
