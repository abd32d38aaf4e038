section WQ
/-- a computation ends, and its answer is as Q says -/
def wq {σ : Type} (o : Option (jR σ)) (Q : Nat → Int32 → σ → Prop) : Prop := match o with
  | some (t, v, S) => Q t v S
  | none => False
theorem wq_some {σ : Type} {t : Nat} {v : Int32} {S : σ} {Q : Nat → Int32 → σ → Prop} (h : Q t v S) : wq (some (t, v, S)) Q := h
theorem wq_ex {σ : Type} {o : Option (jR σ)} {Q : Nat → Int32 → σ → Prop} (h : wq o Q) : ∃ t v S, o = some (t, v, S) ∧ Q t v S := by
  cases o with
  | none => exact h.elim
  | some r => exact ⟨r.1, r.2.1, r.2.2, rfl, h⟩
theorem wq_mono {σ : Type} {o : Option (jR σ)} {Q Q1 : Nat → Int32 → σ → Prop} (h : wq o Q) (k : ∀ t v S, Q t v S → Q1 t v S) : wq o Q1 := by
  cases o with
  | none => exact h.elim
  | some r => exact k _ _ _ h
theorem wq_bin {α σ : Type} {o : Option (jR α)} {k : Int32 → α → Option (jR σ)} {Q : Nat → Int32 → σ → Prop} (h : wq o fun t v S => t = 0 ∧ wq (k v S) Q) : wq (jbin0 o k) Q := by
  obtain ⟨t, v, S, rfl, rfl, h2⟩ := wq_ex h
  exact h2
theorem wq_chk {σ : Type} {b : Bool} {o : Option (jR σ)} {Q : Nat → Int32 → σ → Prop} (hb : b = true) (h : wq o Q) : wq (chk b o) Q := by
  rw [chk_t hb]
  exact h
theorem wq_ite {σ : Type} {c : Prop} [Decidable c] {a b : Option (jR σ)} {Q : Nat → Int32 → σ → Prop} (h1 : c → wq a Q) (h2 : ¬ c → wq b Q) : wq (if c then a else b) Q := by
  by_cases h : c
  · rw [if_pos h]
    exact h1 h
  · rw [if_neg h]
    exact h2 h
theorem wq_join {K σ : Type} {k0 : K} {body : K → Option (jR σ)} {Q : Nat → Int32 → σ → Prop} (h : ∀ k, k = k0 → wq (body k) Q) : wq (joinK k0 body) Q := h k0 rfl
theorem wq_let {α σ : Type} {x : α} {f : α → Option (jR σ)} {Q : Nat → Int32 → σ → Prop} (h : wq (f x) Q) : wq (letE x f) Q := h
/-- a loop that counts from i to n -/
theorem wq_for {K A σ : Type} {F : K → K} {bot : K} {Q : Nat → Int32 → σ → Prop} (ap : K → Int32 → A → Option (jR σ)) (n : Nat) (P : Nat → A → Prop)
    (hs : ∀ (rec : K) (i : Nat) (a : A), i < n → P i a → (∀ a1, P (i + 1) a1 → wq (ap rec (Int32.ofNat (i + 1)) a1) Q) → wq (ap (F rec) (Int32.ofNat i) a) Q)
    (he : ∀ (rec : K) (a : A), P n a → wq (ap (F rec) (Int32.ofNat n) a) Q) :
    ∀ (k i fuel : Nat) (a : A), i + k = n → k < fuel → P i a → wq (ap (loopK F bot fuel) (Int32.ofNat i) a) Q
  | 0, i, fuel + 1, a, h, _, hP => by
    have hi : i = n := by omega
    subst hi
    exact he _ a hP
  | k + 1, i, fuel + 1, a, h, hf, hP => hs _ i a (by omega) hP (fun a1 h1 => wq_for ap n P hs he k (i + 1) fuel a1 (by omega) (by omega) h1)
  | 0, _, 0, _, _, hf, _ => absurd hf (Nat.lt_irrefl _)
  | k + 1, _, 0, _, _, hf, _ => absurd hf (Nat.not_lt_zero _)
/-- a loop, by a number that falls -/
theorem wq_fall {K A σ : Type} {F : K → K} {bot : K} {Q : Nat → Int32 → σ → Prop} (ap : K → A → Option (jR σ)) (P : Nat → A → Prop)
    (hs : ∀ (rec : K) (k : Nat) (a : A), P k a → (∀ k1 a1, k = k1 + 1 → P k1 a1 → wq (ap rec a1) Q) → wq (ap (F rec) a) Q) :
    ∀ (k fuel : Nat) (a : A), k < fuel → P k a → wq (ap (loopK F bot fuel) a) Q
  | k, fuel + 1, a, hf, hP => hs _ k a hP (fun k1 a1 e h1 => wq_fall ap P hs k1 fuel a1 (by omega) h1)
  | k, 0, _, hf, _ => absurd hf (Nat.not_lt_zero _)
/-- two loops that go side by side answer the same -/
theorem eq_for {K A R K2 A2 : Type} {F : K → K} {bot : K} {F2 : K2 → K2} {bot2 : K2} (ap : K → Int32 → A → R) (ap2 : K2 → Int32 → A2 → R) (n : Nat) (P : Nat → A → A2 → Prop)
    (hs : ∀ (rec : K) (rec2 : K2) (i : Nat) (a : A) (a2 : A2), i < n → P i a a2 → (∀ b b2, P (i + 1) b b2 → ap rec (Int32.ofNat (i + 1)) b = ap2 rec2 (Int32.ofNat (i + 1)) b2) → ap (F rec) (Int32.ofNat i) a = ap2 (F2 rec2) (Int32.ofNat i) a2)
    (he : ∀ (rec : K) (rec2 : K2) (a : A) (a2 : A2), P n a a2 → ap (F rec) (Int32.ofNat n) a = ap2 (F2 rec2) (Int32.ofNat n) a2) :
    ∀ (k i fuel : Nat) (a : A) (a2 : A2), i + k = n → k < fuel → P i a a2 → ap (loopK F bot fuel) (Int32.ofNat i) a = ap2 (loopK F2 bot2 fuel) (Int32.ofNat i) a2
  | 0, i, fuel + 1, a, a2, h, _, hP => by
    have hi : i = n := by omega
    subst hi
    exact he _ _ a a2 hP
  | k + 1, i, fuel + 1, a, a2, h, hf, hP => hs _ _ i a a2 (by omega) hP (fun b b2 h1 => eq_for ap ap2 n P hs he k (i + 1) fuel b b2 (by omega) (by omega) h1)
  | 0, _, 0, _, _, _, hf, _ => absurd hf (Nat.lt_irrefl _)
  | k + 1, _, 0, _, _, _, hf, _ => absurd hf (Nat.not_lt_zero _)
/-- the same, where i is a literal -/
theorem n32_z : Int32.ofNat 0 = (0 : Int32) := rfl
theorem n32_le {i n : Nat} (hi : i ≤ 100000) (hn : n ≤ 100000) : (Int32.ofNat n ≤ Int32.ofNat i) = (n ≤ i) := propext (n32_lt6 hi hn)
theorem n32_lt' {i n : Nat} (hi : i ≤ 100000) (hn : n ≤ 100000) : (Int32.ofNat n < Int32.ofNat i) = (n < i) := by
  refine propext ⟨fun h => Nat.lt_of_not_le fun h1 => Int32.not_lt.mpr ((n32_lt6 (i := n) (n := i) hn hi).mpr h1) h, fun h => Int32.not_le.mp fun h1 => ?_⟩
  have := (n32_lt6 (i := n) (n := i) hn hi).mp h1
  omega
theorem n32_eq {a b : Nat} (ha : a ≤ 100000) (hb : b ≤ 100000) : (Int32.ofNat a = Int32.ofNat b) = (a = b) := propext ⟨n32_inj ha hb, fun h => h ▸ rfl⟩
/-- an argument that is in range is a small number -/
theorem n32_rg {p : Int32} {n : Nat} (hn : n ≤ 100000) (h : 0 ≤ p ∧ p ≤ Int32.ofNat n) : ∃ k, k ≤ n ∧ p = Int32.ofNat k := by
  have h1 := Int32.le_iff_toInt_le.mp h.1
  have h2 := Int32.le_iff_toInt_le.mp h.2
  rw [Int32.toInt_ofNat_of_lt (n := n) (by omega)] at h2
  have h3 : (0 : Int32).toInt = 0 := rfl
  rw [h3] at h1
  refine ⟨p.toInt.toNat, by omega, ?_⟩
  refine Int32.toInt_inj.mp ?_
  rw [Int32.toInt_ofNat_of_lt (by omega)]
  omega
end WQ
