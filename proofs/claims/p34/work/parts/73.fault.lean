section FAU
/-- a text of the class: where it lies, its length, its signs -/
def TxC (S : jS) (b n : Nat) : Prop := n ≤ 60 ∧ S b 1 = Int32.ofNat n
theorem f_signAt {S : jS} {b n i : Nat} (h : TxC S b n) (hi : i ≤ 200) : f_X8_signAt S b (Int32.ofNat i) = some (0, (if i < n then S (b + 1) i else 0), ()) := by
  unfold f_X8_signAt joinK
  dsimp only
  rw [if_neg (n32_nn (by omega)), h.2]
  have e : (Int32.ofNat n ≤ Int32.ofNat i) = (n ≤ i) := n32_le (by omega) (by have := h.1; omega)
  simp only [e]
  have := h.1
  by_cases h1 : n ≤ i
  · rw [if_pos h1, if_neg (by omega)]
  · rw [if_neg h1, if_pos (by omega), chk_t (n32_inb (by omega) (by omega)), n32_cl (by omega)]
/-- the fault of a text of n signs, k of which are not read yet -/
def flt (c : Nat → Int32) (n : Nat) : Nat → Int32
  | 0 => if (rd c n).2 = 0 ∧ ((rd c n).1 = 6 ∨ (rd c n).1 = 3) then -1 else Int32.ofNat n
  | k + 1 => if (rd c (n - (k + 1) + 1)).1 = -1 then Int32.ofNat (n - (k + 1)) else flt c n k
theorem rd_00 {c : Nat → Int32} : (rd c 0).1 ≠ -1 := by
  show (0 : Int32) ≠ -1
  decide
theorem f_findFault_go {b n : Nat} {c : Nat → Int32} {S0 : jS} (hb : b ≠ 32) (hb1 : b + 1 ≠ 32) (ht : TxC S0 b n) (hc : ∀ j, j < n → S0 (b + 1) j = c j) : ∀ (k i fuel : Nat) (S : jS), i + k = n → k < fuel → (∀ j, j ≤ i → (rd c j).1 ≠ -1) → S 32 0 = (rd c i).1 → S 32 1 = Int32.ofNat (rd c i).2 → (∀ q j, q ≠ 32 → S q j = S0 q j) →
    wq (loopK (fun (rec3 : jS → Int32 → Option (jR jS)) (S4 : jS) (x5 : Int32) => (if (S4 b 1) ≤ x5 then joinK (fun (x9 : Int32) => joinK (fun (x11 : Int32) => some (0, x11, S4)) (fun k10 => (if x9 = (0 : Int32) then k10 (S4 b 1) else k10 (-1 : Int32)))) (fun k6 => joinK (fun (_ : Unit) => k6 (0 : Int32)) (fun k7 => (if (S4 32 1) = (0 : Int32) then joinK (fun (_ : Unit) => k6 (1 : Int32)) (fun k8 => (if (S4 32 0) = (6 : Int32) then k8 () else (if (S4 32 0) = (3 : Int32) then k8 () else k7 ()))) else k7 ()))) else jbin0 (f_X8_signAt S4 b x5) (fun v12 _ => jbin0 (f_X7_stateAfter S4 v12) (fun v13 S14 => letE (jset S14 32 0 v13) fun S15 => (if (S15 32 0) = (-1 : Int32) then some (0, x5, S15) else letE (x5 + (1 : Int32)) fun x16 => rec3 S15 x16))))) (fun _ _ => none) fuel S (Int32.ofNat i)) (fun t v S1 => t = 0 ∧ v = flt c n k ∧ ∀ q j, q ≠ 32 → S1 q j = S0 q j)
  | 0, i, fuel + 1, S, h, _, hr, h0, h1, hf => by
    have hi : i = n := by omega
    subst hi
    rw [loopK_s]
    have hn := ht.1
    have hl : S b 1 = Int32.ofNat i := by rw [hf b 1 hb, ht.2]
    obtain ⟨h8, _⟩ := rd_le i hr
    have ez : (Int32.ofNat (rd c i).2 = (0 : Int32)) = ((rd c i).2 = 0) := n32_eq (b := 0) (by omega) (by omega)
    unfold joinK
    rw [hl, if_pos (Int32.le_refl _), h0, h1]
    simp only [ez]
    by_cases a : (rd c i).2 = 0
    · simp only [a, if_true]
      by_cases a1 : (rd c i).1 = 6
      · simp only [a1, if_true]
        exact ⟨rfl, by simp [flt, a, a1], hf⟩
      · simp only [a1, if_false]
        by_cases a2 : (rd c i).1 = 3
        · simp only [a2, if_true]
          exact ⟨rfl, by simp [flt, a, a2], hf⟩
        · simp only [a2, if_false, if_true]
          exact ⟨rfl, by simp [flt, a, a1, a2], hf⟩
    · simp only [a, if_false, if_true]
      exact ⟨rfl, by simp [flt, a], hf⟩
  | k + 1, i, fuel + 1, S, h, hfu, hr, h0, h1, hf => by
    have hn := ht.1
    have hk := fun S => f_findFault_go hb hb1 ht hc k (i + 1) fuel S (by omega) (by omega)
    rw [loopK_s]
    generalize loopK _ _ fuel = rec at hk ⊢
    have hl : S b 1 = Int32.ofNat n := by rw [hf b 1 hb, ht.2]
    obtain ⟨h8, _⟩ := rd_le i hr
    have e : (Int32.ofNat n ≤ Int32.ofNat i) = (n ≤ i) := n32_le (by omega) (by omega)
    rw [hl]
    simp only [e]
    rw [if_neg (by omega), f_signAt (n := n) ⟨hn, hl⟩ (by omega), jbin0_s, if_pos (by omega), hf (b + 1) i hb1, hc i (by omega)]
    obtain ⟨S1, e1, hS1, hS2⟩ := f_after (S := S) (c := c i) h1 h8
    rw [h0] at e1 hS2
    rw [e1, jbin0_s]
    unfold letE
    dsimp only
    rw [jset_at, ← rd_1]
    have ei : n - (k + 1) = i := by omega
    by_cases hm : (rd c (i + 1)).1 = -1
    · rw [if_pos hm]
      refine ⟨rfl, ?_, fun q j hq => ?_⟩
      · unfold flt
        rw [ei, if_pos hm]
      · rw [jset_ne (by omega), hS1 q j (by omega), hf q j hq]
    · rw [if_neg hm, n32_succ]
      refine wq_mono (hk _ (fun j hj => ?_) ?_ ?_ (fun q j hq => ?_)) (fun t v S9 hq => ⟨hq.1, ?_, hq.2.2⟩)
      · rcases Nat.lt_or_ge i j with h9 | h9
        · have : j = i + 1 := by omega
          subst this
          exact hm
        · exact hr j h9
      · rw [jset_at]
      · rw [jset_ne (by omega), hS2 hm]
        rfl
      · rw [jset_ne (by omega), hS1 q j (by omega), hf q j hq]
      · rw [hq.2.1]
        conv => rhs; unfold flt
        rw [ei, if_neg hm]
  | 0, _, 0, _, _, hf, _, _, _, _ => absurd hf (Nat.lt_irrefl _)
  | k + 1, _, 0, _, _, hf, _, _, _, _ => absurd hf (Nat.not_lt_zero _)
theorem f_findFault {b n : Nat} {c : Nat → Int32} {S : jS} (hb : b ≠ 32) (hb1 : b + 1 ≠ 32) (ht : TxC S b n) (hc : ∀ j, j < n → S (b + 1) j = c j) : ∃ S1, f_X7_findFault S b = some (0, flt c n n, S1) ∧ ∀ q j, q ≠ 32 → S1 q j = S q j := by
  have hn := ht.1
  have h := f_findFault_go (c := c) (S0 := jset (jset S 32 0 0) 32 1 0) hb hb1 ⟨ht.1, by rw [jset_ne (by omega), jset_ne (by omega)]; exact ht.2⟩ (fun j hj => by rw [jset_ne (by omega), jset_ne (by omega)]; exact hc j hj) n 0 1000 (jset (jset S 32 0 0) 32 1 0) (by omega) (by omega) (fun j hj => by
    have : j = 0 := by omega
    subst this
    exact rd_00) (by rw [jset_ne (by omega), jset_at]; rfl) (by rw [jset_at]; rfl) (fun _ _ _ => rfl)
  obtain ⟨t, v, S1, e, rfl, rfl, h3⟩ := wq_ex h
  refine ⟨S1, e, fun q j hq => ?_⟩
  rw [h3 q j hq, jset_ne (by omega), jset_ne (by omega)]
/-- the model's search -/
theorem m_faultOf_go {a n : Nat} {c : Nat → Int32} {S : jS} (ha : a < 6) (hn : n ≤ 60) (ht : S 362 a = Int32.ofNat n) (hc : ∀ j, j < n → S 361 (60 * a + j) = c j) : ∀ (k i fuel : Nat), i + k = n → k < fuel → (∀ j, j ≤ i → (rd c j).1 ≠ -1) →
    loopK (fun (rec1 : Int32 → Int32 → Int32 → Option (jR Unit)) (x2 : Int32) (x3 : Int32) (x4 : Int32) => chk (inb (Int32.ofNat a) 6) ((if (S 362 (Int32.ofNat a).toNatClampNeg) ≤ x4 then joinK (fun (x9 : Int32) => some (0, x9, ())) (fun k5 => joinK (fun (_ : Unit) => chk (inb (Int32.ofNat a) 6) (k5 (S 362 (Int32.ofNat a).toNatClampNeg))) (fun k6 => (if x3 = (0 : Int32) then joinK (fun (_ : Unit) => k5 (-1 : Int32)) (fun k7 => (if x2 = (3 : Int32) then k7 () else (if x2 = (6 : Int32) then k7 () else k6 ()))) else k6 ()))) else chk (inb ((((60 : Int32) * (Int32.ofNat a)) + x4)) 360) (letE ((S 361 ((((60 : Int32) * (Int32.ofNat a)) + x4)).toNatClampNeg)) fun x10 => jbin0 (f_X11_behind x10 x2 x3) (fun v11 _ => (if v11 = (-1 : Int32) then some (0, x4, ()) else joinK (fun (x13 : Int32) => letE (x3 + x13) fun x14 => letE (x4 + (1 : Int32)) fun x15 => rec1 v11 x14 x15) (fun k12 => (if x10 = (40 : Int32) then k12 (1 : Int32) else (if x10 = (41 : Int32) then k12 (-1 : Int32) else k12 (0 : Int32)))))))))) (fun _ _ _ => none) fuel (rd c i).1 (Int32.ofNat (rd c i).2) (Int32.ofNat i) = some (0, flt c n k, ())
  | 0, i, fuel + 1, h, _, hr => by
    have hi : i = n := by omega
    subst hi
    rw [loopK_s, chk_t (n32_inb (by omega) (by omega)), n32_cl (by omega), ht, if_pos (Int32.le_refl _)]
    obtain ⟨h8, _⟩ := rd_le i hr
    have ez : (Int32.ofNat (rd c i).2 = (0 : Int32)) = ((rd c i).2 = 0) := n32_eq (b := 0) (by omega) (by omega)
    unfold joinK
    simp only [ez]
    by_cases a1 : (rd c i).2 = 0
    · by_cases a2 : (rd c i).1 = 3
      · simp [flt, a1, a2]
      · by_cases a3 : (rd c i).1 = 6
        · simp [flt, a1, a3]
        · simp only [a1, a2, a3, if_true, if_false]
          rw [chk_t (n32_inb (by omega) (by omega))]
          simp [flt, a1, a2, a3]
    · simp only [a1, if_false]
      rw [chk_t (n32_inb (by omega) (by omega))]
      simp [flt, a1]
  | k + 1, i, fuel + 1, h, hfu, hr => by
    obtain ⟨h8, _⟩ := rd_le i hr
    have e : (Int32.ofNat n ≤ Int32.ofNat i) = (n ≤ i) := n32_le (by omega) (by omega)
    have e6 : (60 : Int32) * Int32.ofNat a + Int32.ofNat i = Int32.ofNat (60 * a + i) := by
      rw [Int32.ofNat_add, Int32.ofNat_mul]
      rfl
    have hk := fun hm : ¬ (rd c (i + 1)).1 = -1 => m_faultOf_go ha hn ht hc k (i + 1) fuel (by omega) (by omega) (fun j hj => by
        rcases Nat.lt_or_ge i j with h9 | h9
        · have : j = i + 1 := by omega
          subst this
          exact hm
        · exact hr j h9)
    rw [loopK_s]
    generalize loopK _ _ fuel = rec at hk ⊢
    rw [chk_t (n32_inb (by omega) (by omega)), n32_cl (by omega), ht]
    simp only [e]
    rw [if_neg (by omega), e6, chk_t (n32_inb (by omega) (by omega)), n32_cl (by omega)]
    unfold letE
    dsimp only
    rw [hc i (by omega), m_behind, jbin0_s, ← rd_1]
    have ei : n - (k + 1) = i := by omega
    by_cases hm : (rd c (i + 1)).1 = -1
    · rw [if_pos hm]
      unfold flt
      rw [ei, if_pos hm]
    · rw [if_neg hm]
      conv => rhs; unfold flt
      rw [ei, if_neg hm, ← hk hm]
      unfold joinK
      dsimp only
      rw [rd_2]
      have h4 := bh_cases (show bh (c i) (rd c i).1 (Int32.ofNat (rd c i).2) ≠ -1 from hm)
      by_cases a1 : c i = 40
      · simp only [a1, if_true, n32_succ]
      · simp only [a1, if_false]
        by_cases a2 : c i = 41
        · simp only [a2, if_true]
          have hp : 1 ≤ (rd c i).2 := by
            rcases h4 with ⟨_, h4⟩ | ⟨_, h4, _⟩ | ⟨_, h4, _⟩ | ⟨_, h4, _⟩ | ⟨_, h4, _⟩ | ⟨_, h4, _⟩ | ⟨_, _, _, _, _, h4, _⟩ | ⟨_, _, _, _, _, _, h4, _⟩
            · rcases h4 with ⟨h4, _⟩ | ⟨h4, _⟩ | ⟨h4, _⟩ | ⟨h4, _⟩ | ⟨h4, _⟩ | ⟨h4, _⟩
              all_goals (rw [a2] at h4; exact absurd h4 (by decide))
            all_goals first
              | (rw [a2] at h4; exact absurd h4 (by decide))
              | skip
            have : Int32.ofNat 0 < Int32.ofNat (rd c i).2 := h4
            rw [n32_lt' (by omega) (by omega)] at this
            omega
          rw [← n32_pred hp, Int32.sub_eq_add_neg, n32_succ]
        · simp only [a2, if_false]
          rw [Int32.add_zero, n32_succ]
  | 0, _, 0, _, hf, _ => absurd hf (Nat.lt_irrefl _)
  | k + 1, _, 0, _, hf, _ => absurd hf (Nat.not_lt_zero _)
theorem m_faultOf {a n : Nat} {c : Nat → Int32} {S : jS} (ha : a < 6) (hn : n ≤ 60) (ht : S 362 a = Int32.ofNat n) (hc : ∀ j, j < n → S 361 (60 * a + j) = c j) : f_X11_faultOf S (Int32.ofNat a) = some (0, flt c n n, ()) := m_faultOf_go ha hn ht hc n 0 1000 (by omega) (by omega) (fun j hj => by
    have : j = 0 := by omega
    subst this
    exact rd_00)
/-- a text without a fault -/
def Valid (c : Nat → Int32) (n : Nat) : Prop := (∀ j, j ≤ n → (rd c j).1 ≠ -1) ∧ (rd c n).2 = 0 ∧ ((rd c n).1 = 6 ∨ (rd c n).1 = 3)
theorem flt_valid {c : Nat → Int32} {n : Nat} (hn : n ≤ 60) : ∀ k, k ≤ n → (∀ j, j ≤ n - k → (rd c j).1 ≠ -1) → flt c n k = -1 → Valid c n
  | 0, _, hr, h => by
    unfold flt at h
    by_cases a : (rd c n).2 = 0 ∧ ((rd c n).1 = 6 ∨ (rd c n).1 = 3)
    · exact ⟨fun j hj => hr j (by omega), a.1, a.2⟩
    · rw [if_neg a] at h
      have h1 := congrArg Int32.toInt h
      rw [Int32.toInt_ofNat_of_lt (by omega)] at h1
      have : (-1 : Int32).toInt = -1 := rfl
      omega
  | k + 1, hk, hr, h => by
    unfold flt at h
    by_cases a : (rd c (n - (k + 1) + 1)).1 = -1
    · rw [if_pos a] at h
      have h1 := congrArg Int32.toInt h
      rw [Int32.toInt_ofNat_of_lt (by omega)] at h1
      have : (-1 : Int32).toInt = -1 := rfl
      omega
    · rw [if_neg a] at h
      refine flt_valid hn k (by omega) (fun j hj => ?_) h
      by_cases h9 : j = n - (k + 1) + 1
      · rw [h9]
        exact a
      · exact hr j (by omega)
end FAU
