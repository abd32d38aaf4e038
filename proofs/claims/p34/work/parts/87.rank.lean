section RNK
def cntB (p : Nat → Bool) : Nat → Nat
  | 0 => 0
  | n + 1 => cntB p n + (if p n = true then 1 else 0)
theorem cntB_le {p q : Nat → Bool} : ∀ n, (∀ k, k < n → p k = true → q k = true) → cntB p n ≤ cntB q n
  | 0, _ => Nat.le_refl _
  | n + 1, h => by
    have ih := cntB_le n (fun k hk => h k (by omega))
    show cntB p n + _ ≤ cntB q n + _
    by_cases hp : p n = true
    · rw [if_pos hp, if_pos (h n (by omega) hp)]
      omega
    · rw [if_neg hp]
      omega
theorem cntB_lt {p q : Nat → Bool} {k : Nat} : ∀ n, (∀ k, k < n → p k = true → q k = true) → k < n → ¬ p k = true → q k = true → cntB p n < cntB q n
  | 0, _, h, _, _ => absurd h (Nat.not_lt_zero _)
  | n + 1, h, hk, h1, h2 => by
    show cntB p n + _ < cntB q n + _
    by_cases hkn : k = n
    · subst hkn
      have := cntB_le (p := p) (q := q) k (fun k hk => h k (by omega))
      rw [if_neg h1, if_pos h2]
      omega
    · have ih := cntB_lt n (fun k hk => h k (by omega)) (by omega) h1 h2
      by_cases hp : p n = true
      · rw [if_pos hp, if_pos (h n (by omega) hp)]
        omega
      · rw [if_neg hp]
        omega
theorem cntB_all : ∀ n, cntB (fun _ => true) n = n
  | 0 => rfl
  | n + 1 => by
    show cntB _ n + _ = _
    rw [cntB_all n, if_pos rfl]
/-- any rank can be made to fit -/
theorem norm_rank {n : Nat} {D : Nat → Nat → Prop} (r : Nat → Nat) (h : ∀ i, i < n → ∀ j, j < n → D i j → r j < r i) : ∃ rank : Nat → Nat, ∀ i, i < n → rank i < n ∧ ∀ j, j < n → D i j → rank j < rank i := by
  refine ⟨fun i => cntB (fun y => decide (r y < r i)) n, fun i hi => ⟨?_, fun j hj hd => ?_⟩⟩
  · have := cntB_lt (p := fun y => decide (r y < r i)) (q := fun _ => true) (k := i) n (fun _ _ _ => rfl) hi (by simp) rfl
    rw [cntB_all] at this
    exact this
  · refine cntB_lt (k := j) n (fun k _ hk => ?_) hj (by simp) (decide_eq_true (h i hi j hj hd))
    have hk := of_decide_eq_true hk
    exact decide_eq_true (Nat.lt_trans hk (h i hi j hj hd))
/-- a graph with new targets of one, where no circle comes about -/
theorem new_rank {T : Nat → Int32} {pos : Nat → Nat} {n f : Nat} {w : Int32} (hn : n ≤ 20) (hpos : ∀ i, i < n → pos i < n ∧ ∀ j, j < n → bt (T i) j = true → pos j < pos i) (hw : bits n w) (hT : ∀ i, i < n → bits n (T i)) (hf : bt (cclo T n w n) f = false) :
    ∃ rank : Nat → Nat, ∀ i, i < n → rank i < n ∧ ∀ j, j < n → bt (if i = f then w else T i) j = true → rank j < rank i := by
  refine norm_rank (D := fun i j => bt (if i = f then w else T i) j = true) (fun i => if bt (cclo T n w n) i = true then pos i else if i = f then n else n + 1 + pos i) fun i hi j hj hd => ?_
  by_cases hif : i = f
  · subst hif
    rw [if_pos rfl] at hd
    have hj9 : bt (cclo T n w n) j = true := cclo_up hd n
    rw [if_pos hj9, if_neg (by rw [hf]; decide), if_pos rfl]
    exact (hpos j hj).1
  · rw [if_neg hif] at hd
    have hp := (hpos i hi).2 j hj hd
    by_cases hi9 : bt (cclo T n w n) i = true
    · rw [if_pos hi9, if_pos (cclo_closed hpos hi hi9 hd)]
      exact hp
    · rw [if_neg hi9, if_neg hif]
      by_cases hj9 : bt (cclo T n w n) j = true
      · rw [if_pos hj9]
        omega
      · rw [if_neg hj9]
        by_cases hjf : j = f
        · rw [if_pos hjf]
          omega
        · rw [if_neg hjf]
          omega
/-- the model's circle is the class's loop -/
theorem circ_iff {T W : Nat → Int32} {pos : Nat → Nat} {f : Nat} {w : Int32} (hf6 : f < 6) (hpos : ∀ i, i < 6 → pos i < 6 ∧ ∀ j, j < 6 → bt (T i) j = true → pos j < pos i) (hw : bits 6 w) (hT : ∀ i, i < 6 → bits 6 (T i))
    (hsup : ∀ a, a < 6 → ∀ j, bt (if a = f then w else T a) j = true → bt (W a) j = true) (htr : ∀ a, a < 6 → ∀ m, m < 6 → bt (W a) m = true → ∀ j, bt (W m) j = true → bt (W a) j = true)
    (hrk : ∀ rank : Nat → Nat, (∀ a, a < 6 → ∀ j, j < 6 → bt (if a = f then w else T a) j = true → rank j < rank a) → ∀ a, a < 6 → ∀ j, j < 6 → bt (W a) j = true → rank j < rank a) :
    (∃ a, a < 6 ∧ bt (W a) a = true) ↔ bt (cclo T 6 w 6) f = true := by
  constructor
  · intro ⟨a, ha, h⟩
    by_cases hc : bt (cclo T 6 w 6) f = true
    · exact hc
    · obtain ⟨rank, hr⟩ := new_rank (by omega) hpos hw hT (show bt (cclo T 6 w 6) f = false by simpa using hc)
      exact absurd (hrk rank (fun a ha j hj hd => (hr a ha).2 j hj hd) a ha a ha h) (Nat.lt_irrefl _)
  · intro h
    by_cases hc : bt (W f) f = true
    · exact ⟨f, hf6, hc⟩
    · exfalso
      refine hc (cclo_in (X := fun j => bt (W f) j = true) (n := 6) (T := T) (w := w) (fun i hi hX j hj => ?_) (fun j hj => hsup f hf6 j (by rw [if_pos rfl]; exact hj)) 6 f h)
      have hif : i ≠ f := fun e => hc (e ▸ hX)
      exact htr f hf6 i hi hX j (hsup i hi j (by rw [if_neg hif]; exact hj))
/-- a new need makes a circle where the needed flag needs the needing one -/
theorem need_iff {T : Nat → Int32} {pos : Nat → Nat} {f o : Nat} (hf : f < 8) (ho : o < 8) (hfo : f ≠ o) (hpos : ∀ i, i < 8 → pos i < 8 ∧ ∀ j, j < 8 → bt (T i) j = true → pos j < pos i) (hT : ∀ i, i < 8 → bits 8 (T i)) :
    bt (cclo T 8 (wb (T f) (Int32.ofNat o) 1) 8) f = bt (cclo T 8 (T o) 8) f := by
  have hlt : ∀ i, i < 8 → ∀ j, bt (T i) j = true → j < 8 := fun i hi j hj => by
    rcases Nat.lt_or_ge j 8 with h9 | h9
    · exact h9
    · by_cases h32 : j < 32
      · rw [hT i hi j h9 h32] at hj
        exact absurd hj (by decide)
      · have : bt (T i) j = false := BitVec.getLsbD_of_ge _ _ (by omega)
        rw [this] at hj
        exact absurd hj (by decide)
  have e : bt (cclo T 8 (wb (T f) (Int32.ofNat o) 1) 8) f = true ↔ bt (cclo T 8 (T o) 8) f = true := by
    constructor
    · intro h
      have := cclo_in (X := fun j => bt (cclo T 8 (T o) 8) j = true ∨ j = o ∨ (j < 8 ∧ pos j < pos f)) (n := 8) (T := T) (w := wb (T f) (Int32.ofNat o) 1) (fun i hi hX j hj => ?_) (fun j hj => ?_) 8 f h
      · rcases this with h9 | h9 | h9
        · exact h9
        · exact absurd h9 hfo
        · exact absurd h9.2 (Nat.lt_irrefl _)
      · rcases hX with h9 | h9 | h9
        · exact Or.inl (cclo_closed hpos hi h9 hj)
        · rw [h9] at hj
          exact Or.inl (cclo_up hj 8)
        · have hj8 := hlt i hi j hj
          have := (hpos i hi).2 j hj8 hj
          exact Or.inr (Or.inr ⟨hj8, by omega⟩)
      · by_cases h32 : j < 32
        · rw [wb_bt (by omega) h32] at hj
          by_cases hjo : j = o
          · exact Or.inr (Or.inl hjo)
          · rw [if_neg hjo] at hj
            have hj8 := hlt f hf j hj
            exact Or.inr (Or.inr ⟨hj8, (hpos f hf).2 j hj8 hj⟩)
        · have : bt (wb (T f) (Int32.ofNat o) 1) j = false := BitVec.getLsbD_of_ge _ _ (by omega)
          rw [this] at hj
          exact absurd hj (by decide)
    · intro h
      have ho9 : bt (cclo T 8 (wb (T f) (Int32.ofNat o) 1) 8) o = true := cclo_up (by rw [wb_bt (by omega) (by omega), if_pos rfl]; rfl) 8
      exact cclo_in (X := fun j => bt (cclo T 8 (wb (T f) (Int32.ofNat o) 1) 8) j = true) (n := 8) (T := T) (w := T o) (fun i hi hX j hj => cclo_closed hpos hi hX hj) (fun j hj => cclo_closed hpos ho ho9 hj) 8 f h
  cases e1 : bt (cclo T 8 (wb (T f) (Int32.ofNat o) 1) 8) f <;> cases e2 : bt (cclo T 8 (T o) 8) f <;> simp [e1, e2] at e ⊢
end RNK
