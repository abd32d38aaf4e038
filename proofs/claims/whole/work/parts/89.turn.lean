section TRN2
/-- class and model agree: the same answer, or the same exception; and I holds of what is behind -/
def AG {σ : Type} (oc : Option (jR σ)) (c1 c2 c3 : Int32) (om : Option (jR jS)) (I : σ → jS → Prop) : Prop :=
  (∃ v S1 SM1, oc = some (0, v, S1) ∧ om = some (0, v, SM1) ∧ SM1 358 0 = 0 ∧ I S1 SM1) ∨
  (∃ v v2 S1 SM1, oc = some (1, v, S1) ∧ om = some (0, v2, SM1) ∧ SM1 358 0 = c1 ∧ c1 ≠ 0 ∧ I S1 SM1) ∨
  (∃ v v2 S1 SM1, oc = some (2, v, S1) ∧ om = some (0, v2, SM1) ∧ SM1 358 0 = c2 ∧ c2 ≠ 0 ∧ I S1 SM1) ∨
  (∃ v v2 S1 SM1, oc = some (3, v, S1) ∧ om = some (0, v2, SM1) ∧ SM1 358 0 = c3 ∧ c3 ≠ 0 ∧ I S1 SM1)
theorem turn_0 {N : Nat} {xs : Nat → Int32} {i : Nat} {S : jS} {L : jLg} {w : Nat → Int64} {SM : jS} {rec : jS → jLg → (Nat → Int64) → jS → Option Int32} (h : i + 6 ≤ N) (hN : N ≤ 3072) {I : jS → jLg → jS → Prop} (ha : ∀ p1 p2 p3 : Int32, AG (f_X10_setAttribute S p1 p2 p3) 1 0 0 (f_X11_setAttribute SM p1 p2 p3) (fun S1 SM1 => I S1 L SM1)) : ∃ S1 L1 w1 SM1, I S1 L1 SM1 ∧ lawC_0 N xs (Int32.ofNat i) S L w SM rec = rec S1 L1 w1 SM1 := by
  unfold lawC_0 f_L_setAttribute
  rw [chk_t (scr_1 h hN), chk_t (scr_2 h hN), chk_t (scr_3 h hN)]
  generalize xs (Int32.ofNat i + (1 : Int32)).toNatClampNeg = p1
  generalize xs (Int32.ofNat i + (2 : Int32)).toNatClampNeg = p2
  generalize xs (Int32.ofNat i + (3 : Int32)).toNatClampNeg = p3
  rcases ha p1 p2 p3 with ⟨v, S1, SM1, e1, e2, e3, hI⟩ | ⟨v, v2, S1, SM1, e1, e2, e3, e4, hI⟩ | ⟨v, v2, S1, SM1, e1, e2, e3, e4, hI⟩ | ⟨v, v2, S1, SM1, e1, e2, e3, e4, hI⟩
  · rw [e1, jcat_0]
    rw [jbin0_s, chk_t (scr_1 h hN), chk_t (scr_2 h hN), chk_t (scr_3 h hN), e2, jbin0_s]
    exact ⟨_, _, _, _, hI, both_ok (v := 0) (S1 := (S1, L, vp_updL w (0 : Int32).toNatClampNeg v.toInt64)) (SM1 := SM1) (rec := rec) (c := v.toInt64) e3 (fun _ => rfl)⟩
  · rw [e1, jcat_t]
    rw [if_pos (show 0 + 1 = 1 from rfl)]
    rw [jbin0_s, chk_t (scr_1 h hN), chk_t (scr_2 h hN), chk_t (scr_3 h hN), e2, jbin0_s]
    exact ⟨_, _, _, _, hI, both_ok (v := 1) (S1 := (S1, L, w)) (SM1 := SM1) (rec := rec) (c := v2.toInt64) e3 (fun h => absurd h (by decide))⟩
  · exact absurd rfl e4
  · exact absurd rfl e4
theorem turn_1 {N : Nat} {xs : Nat → Int32} {i : Nat} {S : jS} {L : jLg} {w : Nat → Int64} {SM : jS} {rec : jS → jLg → (Nat → Int64) → jS → Option Int32} (h : i + 6 ≤ N) (hN : N ≤ 3072) {I : jS → jLg → jS → Prop} (ha : ∀ p1 p2 p3 : Int32, AG (f_X10_setTag S p1 p2 (bz p3)) 1 0 0 (f_X11_setTag SM p1 p2 (bz p3)) (fun S1 SM1 => I S1 L SM1)) : ∃ S1 L1 w1 SM1, I S1 L1 SM1 ∧ lawC_1 N xs (Int32.ofNat i) S L w SM rec = rec S1 L1 w1 SM1 := by
  unfold lawC_1 f_L_setTag
  rw [chk_t (scr_1 h hN), chk_t (scr_2 h hN), chk_t (scr_3 h hN)]
  generalize xs (Int32.ofNat i + (1 : Int32)).toNatClampNeg = p1
  generalize xs (Int32.ofNat i + (2 : Int32)).toNatClampNeg = p2
  generalize xs (Int32.ofNat i + (3 : Int32)).toNatClampNeg = p3
  rcases ha p1 p2 p3 with ⟨v, S1, SM1, e1, e2, e3, hI⟩ | ⟨v, v2, S1, SM1, e1, e2, e3, e4, hI⟩ | ⟨v, v2, S1, SM1, e1, e2, e3, e4, hI⟩ | ⟨v, v2, S1, SM1, e1, e2, e3, e4, hI⟩
  · rw [e1, jcat_0]
    by_cases hv : v = (0 : Int32)
    · rw [if_pos hv, jbin0_s, chk_t (scr_1 h hN), chk_t (scr_2 h hN), chk_t (scr_3 h hN), e2, jbin0_s]
      refine ⟨_, _, _, _, hI, both_ok (v := 0) (S1 := (S1, L, vp_updL w (0 : Int32).toNatClampNeg (0 : Int64))) (SM1 := SM1) (rec := rec) (c := zl v) e3 (fun _ => ?_)⟩
      rw [hv]
      rfl
    · rw [if_neg hv, jbin0_s, chk_t (scr_1 h hN), chk_t (scr_2 h hN), chk_t (scr_3 h hN), e2, jbin0_s]
      refine ⟨_, _, _, _, hI, both_ok (v := 0) (S1 := (S1, L, vp_updL w (0 : Int32).toNatClampNeg (1 : Int64))) (SM1 := SM1) (rec := rec) (c := zl v) e3 (fun _ => ?_)⟩
      unfold zl
      rw [if_neg hv]
      rfl
  · rw [e1, jcat_t]
    rw [if_pos (show 0 + 1 = 1 from rfl)]
    rw [jbin0_s, chk_t (scr_1 h hN), chk_t (scr_2 h hN), chk_t (scr_3 h hN), e2, jbin0_s]
    exact ⟨_, _, _, _, hI, both_ok (v := 1) (S1 := (S1, L, w)) (SM1 := SM1) (rec := rec) (c := zl v2) e3 (fun h => absurd h (by decide))⟩
  · exact absurd rfl e4
  · exact absurd rfl e4
theorem turn_2 {N : Nat} {xs : Nat → Int32} {i : Nat} {S : jS} {L : jLg} {w : Nat → Int64} {SM : jS} {rec : jS → jLg → (Nat → Int64) → jS → Option Int32} (h : i + 6 ≤ N) (hN : N ≤ 3072) {I : jS → jLg → jS → Prop} (ha : ∀ p1 p2 : Int32, AG (f_X10_type S p1 p2) 1 2 0 (f_X11_type SM p1 p2) (fun S1 SM1 => I S1 L SM1)) : ∃ S1 L1 w1 SM1, I S1 L1 SM1 ∧ lawC_2 N xs (Int32.ofNat i) S L w SM rec = rec S1 L1 w1 SM1 := by
  unfold lawC_2 f_L_type
  rw [chk_t (scr_1 h hN), chk_t (scr_2 h hN)]
  generalize xs (Int32.ofNat i + (1 : Int32)).toNatClampNeg = p1
  generalize xs (Int32.ofNat i + (2 : Int32)).toNatClampNeg = p2
  rcases ha p1 p2 with ⟨v, S1, SM1, e1, e2, e3, hI⟩ | ⟨v, v2, S1, SM1, e1, e2, e3, e4, hI⟩ | ⟨v, v2, S1, SM1, e1, e2, e3, e4, hI⟩ | ⟨v, v2, S1, SM1, e1, e2, e3, e4, hI⟩
  · rw [e1, jcat_0]
    rw [jbin0_s, chk_t (scr_1 h hN), chk_t (scr_2 h hN), e2, jbin0_s]
    exact ⟨_, _, _, _, hI, both_ok (v := 0) (S1 := (S1, L, vp_updL w (0 : Int32).toNatClampNeg v.toInt64)) (SM1 := SM1) (rec := rec) (c := v.toInt64) e3 (fun _ => rfl)⟩
  · rw [e1, jcat_t]
    rw [if_pos (show 0 + 1 = 1 from rfl)]
    rw [jbin0_s, chk_t (scr_1 h hN), chk_t (scr_2 h hN), e2, jbin0_s]
    exact ⟨_, _, _, _, hI, both_ok (v := 1) (S1 := (S1, L, w)) (SM1 := SM1) (rec := rec) (c := v2.toInt64) e3 (fun h => absurd h (by decide))⟩
  · rw [e1, jcat_t]
    rw [if_neg (show ¬ 1 + 1 = 1 by decide)]
    rw [if_pos (show 1 + 1 = 2 from rfl)]
    rw [jbin0_s, chk_t (scr_1 h hN), chk_t (scr_2 h hN), e2, jbin0_s]
    exact ⟨_, _, _, _, hI, both_ok (v := 2) (S1 := (S1, L, w)) (SM1 := SM1) (rec := rec) (c := v2.toInt64) e3 (fun h => absurd h (by decide))⟩
  · exact absurd rfl e4
theorem turn_3 {N : Nat} {xs : Nat → Int32} {i : Nat} {S : jS} {L : jLg} {w : Nat → Int64} {SM : jS} {rec : jS → jLg → (Nat → Int64) → jS → Option Int32} (h : i + 6 ≤ N) (hN : N ≤ 3072) {I : jS → jLg → jS → Prop} (ha : ∀ p1 p2 : Int32, AG (f_X10_erase S p1 p2) 1 0 0 (f_X11_erase SM p1 p2) (fun S1 SM1 => I S1 L SM1)) : ∃ S1 L1 w1 SM1, I S1 L1 SM1 ∧ lawC_3 N xs (Int32.ofNat i) S L w SM rec = rec S1 L1 w1 SM1 := by
  unfold lawC_3 f_L_erase
  rw [chk_t (scr_1 h hN), chk_t (scr_2 h hN)]
  generalize xs (Int32.ofNat i + (1 : Int32)).toNatClampNeg = p1
  generalize xs (Int32.ofNat i + (2 : Int32)).toNatClampNeg = p2
  rcases ha p1 p2 with ⟨v, S1, SM1, e1, e2, e3, hI⟩ | ⟨v, v2, S1, SM1, e1, e2, e3, e4, hI⟩ | ⟨v, v2, S1, SM1, e1, e2, e3, e4, hI⟩ | ⟨v, v2, S1, SM1, e1, e2, e3, e4, hI⟩
  · rw [e1, jcat_0]
    rw [jbin0_s, chk_t (scr_1 h hN), chk_t (scr_2 h hN), e2, jbin0_s]
    exact ⟨_, _, _, _, hI, both_ok (v := 0) (S1 := (S1, L, vp_updL w (0 : Int32).toNatClampNeg v.toInt64)) (SM1 := SM1) (rec := rec) (c := v.toInt64) e3 (fun _ => rfl)⟩
  · rw [e1, jcat_t]
    rw [if_pos (show 0 + 1 = 1 from rfl)]
    rw [jbin0_s, chk_t (scr_1 h hN), chk_t (scr_2 h hN), e2, jbin0_s]
    exact ⟨_, _, _, _, hI, both_ok (v := 1) (S1 := (S1, L, w)) (SM1 := SM1) (rec := rec) (c := v2.toInt64) e3 (fun h => absurd h (by decide))⟩
  · exact absurd rfl e4
  · exact absurd rfl e4
theorem turn_4 {N : Nat} {xs : Nat → Int32} {i : Nat} {S : jS} {L : jLg} {w : Nat → Int64} {SM : jS} {rec : jS → jLg → (Nat → Int64) → jS → Option Int32} (h : i + 6 ≤ N) (hN : N ≤ 3072) {I : jS → jLg → jS → Prop} (ha : ∀ p1 p2 : Int32, AG (f_X10_sign S p1 p2) 1 0 2 (f_X11_sign SM p1 p2) (fun _ SM1 => I S L SM1)) : ∃ S1 L1 w1 SM1, I S1 L1 SM1 ∧ lawC_4 N xs (Int32.ofNat i) S L w SM rec = rec S1 L1 w1 SM1 := by
  unfold lawC_4 f_L_sign
  rw [chk_t (scr_1 h hN), chk_t (scr_2 h hN)]
  generalize xs (Int32.ofNat i + (1 : Int32)).toNatClampNeg = p1
  generalize xs (Int32.ofNat i + (2 : Int32)).toNatClampNeg = p2
  rcases ha p1 p2 with ⟨v, S1, SM1, e1, e2, e3, hI⟩ | ⟨v, v2, S1, SM1, e1, e2, e3, e4, hI⟩ | ⟨v, v2, S1, SM1, e1, e2, e3, e4, hI⟩ | ⟨v, v2, S1, SM1, e1, e2, e3, e4, hI⟩
  · rw [e1, jcat_0]
    rw [jbin0_s, chk_t (scr_1 h hN), chk_t (scr_2 h hN), e2, jbin0_s]
    exact ⟨_, _, _, _, hI, both_ok (v := 0) (S1 := (S, L, vp_updL w (0 : Int32).toNatClampNeg v.toInt64)) (SM1 := SM1) (rec := rec) (c := v.toInt64) e3 (fun _ => rfl)⟩
  · rw [e1, jcat_t]
    rw [if_pos (show 0 + 1 = 1 from rfl)]
    rw [jbin0_s, chk_t (scr_1 h hN), chk_t (scr_2 h hN), e2, jbin0_s]
    exact ⟨_, _, _, _, hI, both_ok (v := 1) (S1 := (S, L, w)) (SM1 := SM1) (rec := rec) (c := v2.toInt64) e3 (fun h => absurd h (by decide))⟩
  · exact absurd rfl e4
  · rw [e1, jcat_t]
    rw [if_neg (show ¬ 2 + 1 = 1 by decide)]
    rw [if_pos (show 2 + 1 = 3 from rfl)]
    rw [jbin0_s, chk_t (scr_1 h hN), chk_t (scr_2 h hN), e2, jbin0_s]
    exact ⟨_, _, _, _, hI, both_ok (v := 2) (S1 := (S, L, w)) (SM1 := SM1) (rec := rec) (c := v2.toInt64) e3 (fun h => absurd h (by decide))⟩
theorem turn_5 {N : Nat} {xs : Nat → Int32} {i : Nat} {S : jS} {L : jLg} {w : Nat → Int64} {SM : jS} {rec : jS → jLg → (Nat → Int64) → jS → Option Int32} (h : i + 6 ≤ N) (hN : N ≤ 3072) {I : jS → jLg → jS → Prop} (ha : ∀ p1 : Int32, AG (f_X10_fault S p1) 1 0 0 (f_X11_fault SM p1) (fun S1 SM1 => I S1 L SM1)) : ∃ S1 L1 w1 SM1, I S1 L1 SM1 ∧ lawC_5 N xs (Int32.ofNat i) S L w SM rec = rec S1 L1 w1 SM1 := by
  unfold lawC_5 f_L_fault
  rw [chk_t (scr_1 h hN)]
  generalize xs (Int32.ofNat i + (1 : Int32)).toNatClampNeg = p1
  rcases ha p1 with ⟨v, S1, SM1, e1, e2, e3, hI⟩ | ⟨v, v2, S1, SM1, e1, e2, e3, e4, hI⟩ | ⟨v, v2, S1, SM1, e1, e2, e3, e4, hI⟩ | ⟨v, v2, S1, SM1, e1, e2, e3, e4, hI⟩
  · rw [e1, jcat_0]
    rw [jbin0_s, chk_t (scr_1 h hN), e2, jbin0_s]
    exact ⟨_, _, _, _, hI, both_ok (v := 0) (S1 := (S1, L, vp_updL w (0 : Int32).toNatClampNeg v.toInt64)) (SM1 := SM1) (rec := rec) (c := v.toInt64) e3 (fun _ => rfl)⟩
  · rw [e1, jcat_t]
    rw [if_pos (show 0 + 1 = 1 from rfl)]
    rw [jbin0_s, chk_t (scr_1 h hN), e2, jbin0_s]
    exact ⟨_, _, _, _, hI, both_ok (v := 1) (S1 := (S1, L, w)) (SM1 := SM1) (rec := rec) (c := v2.toInt64) e3 (fun h => absurd h (by decide))⟩
  · exact absurd rfl e4
  · exact absurd rfl e4
theorem turn_6 {N : Nat} {xs : Nat → Int32} {i : Nat} {S : jS} {L : jLg} {w : Nat → Int64} {SM : jS} {rec : jS → jLg → (Nat → Int64) → jS → Option Int32} (h : i + 6 ≤ N) (hN : N ≤ 3072) {I : jS → jLg → jS → Prop} (ha : ∀ p1 : Int32, AG (f_X10_set S p1) 1 2 0 (f_X11_set SM p1) (fun S1 SM1 => I S1 L SM1)) : ∃ S1 L1 w1 SM1, I S1 L1 SM1 ∧ lawC_6 N xs (Int32.ofNat i) S L w SM rec = rec S1 L1 w1 SM1 := by
  unfold lawC_6 f_L_set
  rw [chk_t (scr_1 h hN)]
  generalize xs (Int32.ofNat i + (1 : Int32)).toNatClampNeg = p1
  rcases ha p1 with ⟨v, S1, SM1, e1, e2, e3, hI⟩ | ⟨v, v2, S1, SM1, e1, e2, e3, e4, hI⟩ | ⟨v, v2, S1, SM1, e1, e2, e3, e4, hI⟩ | ⟨v, v2, S1, SM1, e1, e2, e3, e4, hI⟩
  · rw [e1, jcat_0]
    rw [jbin0_s, chk_t (scr_1 h hN), e2, jbin0_s]
    exact ⟨_, _, _, _, hI, both_ok (v := 0) (S1 := (S1, L, vp_updL w (0 : Int32).toNatClampNeg v.toInt64)) (SM1 := SM1) (rec := rec) (c := v.toInt64) e3 (fun _ => rfl)⟩
  · rw [e1, jcat_t]
    rw [if_pos (show 0 + 1 = 1 from rfl)]
    rw [jbin0_s, chk_t (scr_1 h hN), e2, jbin0_s]
    exact ⟨_, _, _, _, hI, both_ok (v := 1) (S1 := (S1, L, w)) (SM1 := SM1) (rec := rec) (c := v2.toInt64) e3 (fun h => absurd h (by decide))⟩
  · rw [e1, jcat_t]
    rw [if_neg (show ¬ 1 + 1 = 1 by decide)]
    rw [if_pos (show 1 + 1 = 2 from rfl)]
    rw [jbin0_s, chk_t (scr_1 h hN), e2, jbin0_s]
    exact ⟨_, _, _, _, hI, both_ok (v := 2) (S1 := (S1, L, w)) (SM1 := SM1) (rec := rec) (c := v2.toInt64) e3 (fun h => absurd h (by decide))⟩
  · exact absurd rfl e4
theorem turn_7 {N : Nat} {xs : Nat → Int32} {i : Nat} {S : jS} {L : jLg} {w : Nat → Int64} {SM : jS} {rec : jS → jLg → (Nat → Int64) → jS → Option Int32} (h : i + 6 ≤ N) (hN : N ≤ 3072) {I : jS → jLg → jS → Prop} (ha : ∀ p1 : Int32, AG (f_X10_wouldMove S p1) 1 2 0 (f_X11_wouldMove SM p1) (fun S1 SM1 => I S1 L SM1)) : ∃ S1 L1 w1 SM1, I S1 L1 SM1 ∧ lawC_7 N xs (Int32.ofNat i) S L w SM rec = rec S1 L1 w1 SM1 := by
  unfold lawC_7 f_L_wouldMove
  rw [chk_t (scr_1 h hN)]
  generalize xs (Int32.ofNat i + (1 : Int32)).toNatClampNeg = p1
  rcases ha p1 with ⟨v, S1, SM1, e1, e2, e3, hI⟩ | ⟨v, v2, S1, SM1, e1, e2, e3, e4, hI⟩ | ⟨v, v2, S1, SM1, e1, e2, e3, e4, hI⟩ | ⟨v, v2, S1, SM1, e1, e2, e3, e4, hI⟩
  · rw [e1, jcat_0]
    rw [jbin0_s, chk_t (scr_1 h hN), e2, jbin0_s]
    exact ⟨_, _, _, _, hI, both_ok (v := 0) (S1 := (S1, L, vp_updL w (0 : Int32).toNatClampNeg v.toInt64)) (SM1 := SM1) (rec := rec) (c := v.toInt64) e3 (fun _ => rfl)⟩
  · rw [e1, jcat_t]
    rw [if_pos (show 0 + 1 = 1 from rfl)]
    rw [jbin0_s, chk_t (scr_1 h hN), e2, jbin0_s]
    exact ⟨_, _, _, _, hI, both_ok (v := 1) (S1 := (S1, L, w)) (SM1 := SM1) (rec := rec) (c := v2.toInt64) e3 (fun h => absurd h (by decide))⟩
  · rw [e1, jcat_t]
    rw [if_neg (show ¬ 1 + 1 = 1 by decide)]
    rw [if_pos (show 1 + 1 = 2 from rfl)]
    rw [jbin0_s, chk_t (scr_1 h hN), e2, jbin0_s]
    exact ⟨_, _, _, _, hI, both_ok (v := 2) (S1 := (S1, L, w)) (SM1 := SM1) (rec := rec) (c := v2.toInt64) e3 (fun h => absurd h (by decide))⟩
  · exact absurd rfl e4
theorem turn_8 {N : Nat} {xs : Nat → Int32} {i : Nat} {S : jS} {L : jLg} {w : Nat → Int64} {SM : jS} {rec : jS → jLg → (Nat → Int64) → jS → Option Int32} (h : i + 6 ≤ N) (hN : N ≤ 3072) {I : jS → jLg → jS → Prop} (ha : ∀ p1 p2 : Int32, AG (f_X10_isIn S p1 p2) 1 0 0 (f_X11_isIn SM p1 p2) (fun _ SM1 => I S L SM1)) : ∃ S1 L1 w1 SM1, I S1 L1 SM1 ∧ lawC_8 N xs (Int32.ofNat i) S L w SM rec = rec S1 L1 w1 SM1 := by
  unfold lawC_8 f_L_isIn
  rw [chk_t (scr_1 h hN), chk_t (scr_2 h hN)]
  generalize xs (Int32.ofNat i + (1 : Int32)).toNatClampNeg = p1
  generalize xs (Int32.ofNat i + (2 : Int32)).toNatClampNeg = p2
  rcases ha p1 p2 with ⟨v, S1, SM1, e1, e2, e3, hI⟩ | ⟨v, v2, S1, SM1, e1, e2, e3, e4, hI⟩ | ⟨v, v2, S1, SM1, e1, e2, e3, e4, hI⟩ | ⟨v, v2, S1, SM1, e1, e2, e3, e4, hI⟩
  · rw [e1, jcat_0]
    by_cases hv : v = (0 : Int32)
    · rw [if_pos hv, jbin0_s, chk_t (scr_1 h hN), chk_t (scr_2 h hN), e2, jbin0_s]
      refine ⟨_, _, _, _, hI, both_ok (v := 0) (S1 := (S, L, vp_updL w (0 : Int32).toNatClampNeg (0 : Int64))) (SM1 := SM1) (rec := rec) (c := zl v) e3 (fun _ => ?_)⟩
      rw [hv]
      rfl
    · rw [if_neg hv, jbin0_s, chk_t (scr_1 h hN), chk_t (scr_2 h hN), e2, jbin0_s]
      refine ⟨_, _, _, _, hI, both_ok (v := 0) (S1 := (S, L, vp_updL w (0 : Int32).toNatClampNeg (1 : Int64))) (SM1 := SM1) (rec := rec) (c := zl v) e3 (fun _ => ?_)⟩
      unfold zl
      rw [if_neg hv]
      rfl
  · rw [e1, jcat_t]
    rw [if_pos (show 0 + 1 = 1 from rfl)]
    rw [jbin0_s, chk_t (scr_1 h hN), chk_t (scr_2 h hN), e2, jbin0_s]
    exact ⟨_, _, _, _, hI, both_ok (v := 1) (S1 := (S, L, w)) (SM1 := SM1) (rec := rec) (c := zl v2) e3 (fun h => absurd h (by decide))⟩
  · exact absurd rfl e4
  · exact absurd rfl e4
theorem turn_9 {N : Nat} {xs : Nat → Int32} {i : Nat} {S : jS} {L : jLg} {w : Nat → Int64} {SM : jS} {rec : jS → jLg → (Nat → Int64) → jS → Option Int32} (h : i + 6 ≤ N) (hN : N ≤ 3072) {I : jS → jLg → jS → Prop} (ha : ∀ p1 p2 p3 p4 : Int32, AG (f_X10_addRule S p1 p2 p3 p4) 1 3 2 (f_X11_addRule SM p1 p2 p3 p4) (fun S1 SM1 => I S1 L SM1)) : ∃ S1 L1 w1 SM1, I S1 L1 SM1 ∧ lawC_9 N xs (Int32.ofNat i) S L w SM rec = rec S1 L1 w1 SM1 := by
  unfold lawC_9 f_L_addRule
  rw [chk_t (scr_1 h hN), chk_t (scr_2 h hN), chk_t (scr_3 h hN), chk_t (scr_4 h hN)]
  generalize xs (Int32.ofNat i + (1 : Int32)).toNatClampNeg = p1
  generalize xs (Int32.ofNat i + (2 : Int32)).toNatClampNeg = p2
  generalize xs (Int32.ofNat i + (3 : Int32)).toNatClampNeg = p3
  generalize xs (Int32.ofNat i + (4 : Int32)).toNatClampNeg = p4
  rcases ha p1 p2 p3 p4 with ⟨v, S1, SM1, e1, e2, e3, hI⟩ | ⟨v, v2, S1, SM1, e1, e2, e3, e4, hI⟩ | ⟨v, v2, S1, SM1, e1, e2, e3, e4, hI⟩ | ⟨v, v2, S1, SM1, e1, e2, e3, e4, hI⟩
  · rw [e1, jcat_0]
    rw [jbin0_s, chk_t (scr_1 h hN), chk_t (scr_2 h hN), chk_t (scr_3 h hN), chk_t (scr_4 h hN), e2, jbin0_s]
    exact ⟨_, _, _, _, hI, both_ok (v := 0) (S1 := (S1, L, vp_updL w (0 : Int32).toNatClampNeg v.toInt64)) (SM1 := SM1) (rec := rec) (c := v.toInt64) e3 (fun _ => rfl)⟩
  · rw [e1, jcat_t]
    rw [if_pos (show 0 + 1 = 1 from rfl)]
    rw [jbin0_s, chk_t (scr_1 h hN), chk_t (scr_2 h hN), chk_t (scr_3 h hN), chk_t (scr_4 h hN), e2, jbin0_s]
    exact ⟨_, _, _, _, hI, both_ok (v := 1) (S1 := (S1, L, w)) (SM1 := SM1) (rec := rec) (c := v2.toInt64) e3 (fun h => absurd h (by decide))⟩
  · rw [e1, jcat_t]
    rw [if_neg (show ¬ 1 + 1 = 1 by decide)]
    rw [if_neg (show ¬ 1 + 1 = 3 by decide)]
    rw [if_pos (show 1 + 1 = 2 from rfl)]
    rw [jbin0_s, chk_t (scr_1 h hN), chk_t (scr_2 h hN), chk_t (scr_3 h hN), chk_t (scr_4 h hN), e2, jbin0_s]
    exact ⟨_, _, _, _, hI, both_ok (v := 3) (S1 := (S1, L, w)) (SM1 := SM1) (rec := rec) (c := v2.toInt64) e3 (fun h => absurd h (by decide))⟩
  · rw [e1, jcat_t]
    rw [if_neg (show ¬ 2 + 1 = 1 by decide)]
    rw [if_pos (show 2 + 1 = 3 from rfl)]
    rw [jbin0_s, chk_t (scr_1 h hN), chk_t (scr_2 h hN), chk_t (scr_3 h hN), chk_t (scr_4 h hN), e2, jbin0_s]
    exact ⟨_, _, _, _, hI, both_ok (v := 2) (S1 := (S1, L, w)) (SM1 := SM1) (rec := rec) (c := v2.toInt64) e3 (fun h => absurd h (by decide))⟩
theorem turn_10 {N : Nat} {xs : Nat → Int32} {i : Nat} {S : jS} {L : jLg} {w : Nat → Int64} {SM : jS} {rec : jS → jLg → (Nat → Int64) → jS → Option Int32} (h : i + 6 ≤ N) (hN : N ≤ 3072) {I : jS → jLg → jS → Prop} (ha : ∀ p1 p2 : Int32, AG (f_X10_removeRule S p1 p2) 1 0 2 (f_X11_removeRule SM p1 p2) (fun S1 SM1 => I S1 L SM1)) : ∃ S1 L1 w1 SM1, I S1 L1 SM1 ∧ lawC_10 N xs (Int32.ofNat i) S L w SM rec = rec S1 L1 w1 SM1 := by
  unfold lawC_10 f_L_removeRule
  rw [chk_t (scr_1 h hN), chk_t (scr_2 h hN)]
  generalize xs (Int32.ofNat i + (1 : Int32)).toNatClampNeg = p1
  generalize xs (Int32.ofNat i + (2 : Int32)).toNatClampNeg = p2
  rcases ha p1 p2 with ⟨v, S1, SM1, e1, e2, e3, hI⟩ | ⟨v, v2, S1, SM1, e1, e2, e3, e4, hI⟩ | ⟨v, v2, S1, SM1, e1, e2, e3, e4, hI⟩ | ⟨v, v2, S1, SM1, e1, e2, e3, e4, hI⟩
  · rw [e1, jcat_0]
    rw [jbin0_s, chk_t (scr_1 h hN), chk_t (scr_2 h hN), e2, jbin0_s]
    exact ⟨_, _, _, _, hI, both_ok (v := 0) (S1 := (S1, L, vp_updL w (0 : Int32).toNatClampNeg v.toInt64)) (SM1 := SM1) (rec := rec) (c := v.toInt64) e3 (fun _ => rfl)⟩
  · rw [e1, jcat_t]
    rw [if_pos (show 0 + 1 = 1 from rfl)]
    rw [jbin0_s, chk_t (scr_1 h hN), chk_t (scr_2 h hN), e2, jbin0_s]
    exact ⟨_, _, _, _, hI, both_ok (v := 1) (S1 := (S1, L, w)) (SM1 := SM1) (rec := rec) (c := v2.toInt64) e3 (fun h => absurd h (by decide))⟩
  · exact absurd rfl e4
  · rw [e1, jcat_t]
    rw [if_neg (show ¬ 2 + 1 = 1 by decide)]
    rw [if_pos (show 2 + 1 = 3 from rfl)]
    rw [jbin0_s, chk_t (scr_1 h hN), chk_t (scr_2 h hN), e2, jbin0_s]
    exact ⟨_, _, _, _, hI, both_ok (v := 2) (S1 := (S1, L, w)) (SM1 := SM1) (rec := rec) (c := v2.toInt64) e3 (fun h => absurd h (by decide))⟩
theorem turn_11 {N : Nat} {xs : Nat → Int32} {i : Nat} {S : jS} {L : jLg} {w : Nat → Int64} {SM : jS} {rec : jS → jLg → (Nat → Int64) → jS → Option Int32} (h : i + 6 ≤ N) (hN : N ≤ 3072) {I : jS → jLg → jS → Prop} (ha : ∀ p1 : Int32, AG (f_X10_rules S p1) 1 0 0 (f_X11_rules SM p1) (fun _ SM1 => I S L SM1)) : ∃ S1 L1 w1 SM1, I S1 L1 SM1 ∧ lawC_11 N xs (Int32.ofNat i) S L w SM rec = rec S1 L1 w1 SM1 := by
  unfold lawC_11 f_L_rules
  rw [chk_t (scr_1 h hN)]
  generalize xs (Int32.ofNat i + (1 : Int32)).toNatClampNeg = p1
  rcases ha p1 with ⟨v, S1, SM1, e1, e2, e3, hI⟩ | ⟨v, v2, S1, SM1, e1, e2, e3, e4, hI⟩ | ⟨v, v2, S1, SM1, e1, e2, e3, e4, hI⟩ | ⟨v, v2, S1, SM1, e1, e2, e3, e4, hI⟩
  · rw [e1, jcat_0]
    rw [jbin0_s, chk_t (scr_1 h hN), e2, jbin0_s]
    exact ⟨_, _, _, _, hI, both_ok (v := 0) (S1 := (S, L, vp_updL w (0 : Int32).toNatClampNeg v.toInt64)) (SM1 := SM1) (rec := rec) (c := v.toInt64) e3 (fun _ => rfl)⟩
  · rw [e1, jcat_t]
    rw [if_pos (show 0 + 1 = 1 from rfl)]
    rw [jbin0_s, chk_t (scr_1 h hN), e2, jbin0_s]
    exact ⟨_, _, _, _, hI, both_ok (v := 1) (S1 := (S, L, w)) (SM1 := SM1) (rec := rec) (c := v2.toInt64) e3 (fun h => absurd h (by decide))⟩
  · exact absurd rfl e4
  · exact absurd rfl e4
theorem turn_12 {N : Nat} {xs : Nat → Int32} {i : Nat} {S : jS} {L : jLg} {w : Nat → Int64} {SM : jS} {rec : jS → jLg → (Nat → Int64) → jS → Option Int32} (h : i + 6 ≤ N) (hN : N ≤ 3072) {I : jS → jLg → jS → Prop} (ha : ∀ p1 p2 p3 : Int32, AG (f_X10_setNeed S p1 p2 (bz p3)) 1 2 0 (f_X11_setNeed SM p1 p2 (bz p3)) (fun S1 SM1 => I S1 L SM1)) : ∃ S1 L1 w1 SM1, I S1 L1 SM1 ∧ lawC_12 N xs (Int32.ofNat i) S L w SM rec = rec S1 L1 w1 SM1 := by
  unfold lawC_12 f_L_setNeed
  rw [chk_t (scr_1 h hN), chk_t (scr_2 h hN), chk_t (scr_3 h hN)]
  generalize xs (Int32.ofNat i + (1 : Int32)).toNatClampNeg = p1
  generalize xs (Int32.ofNat i + (2 : Int32)).toNatClampNeg = p2
  generalize xs (Int32.ofNat i + (3 : Int32)).toNatClampNeg = p3
  rcases ha p1 p2 p3 with ⟨v, S1, SM1, e1, e2, e3, hI⟩ | ⟨v, v2, S1, SM1, e1, e2, e3, e4, hI⟩ | ⟨v, v2, S1, SM1, e1, e2, e3, e4, hI⟩ | ⟨v, v2, S1, SM1, e1, e2, e3, e4, hI⟩
  · rw [e1, jcat_0]
    by_cases hv : v = (0 : Int32)
    · rw [if_pos hv, jbin0_s, chk_t (scr_1 h hN), chk_t (scr_2 h hN), chk_t (scr_3 h hN), e2, jbin0_s]
      refine ⟨_, _, _, _, hI, both_ok (v := 0) (S1 := (S1, L, vp_updL w (0 : Int32).toNatClampNeg (0 : Int64))) (SM1 := SM1) (rec := rec) (c := zl v) e3 (fun _ => ?_)⟩
      rw [hv]
      rfl
    · rw [if_neg hv, jbin0_s, chk_t (scr_1 h hN), chk_t (scr_2 h hN), chk_t (scr_3 h hN), e2, jbin0_s]
      refine ⟨_, _, _, _, hI, both_ok (v := 0) (S1 := (S1, L, vp_updL w (0 : Int32).toNatClampNeg (1 : Int64))) (SM1 := SM1) (rec := rec) (c := zl v) e3 (fun _ => ?_)⟩
      unfold zl
      rw [if_neg hv]
      rfl
  · rw [e1, jcat_t]
    rw [if_pos (show 0 + 1 = 1 from rfl)]
    rw [jbin0_s, chk_t (scr_1 h hN), chk_t (scr_2 h hN), chk_t (scr_3 h hN), e2, jbin0_s]
    exact ⟨_, _, _, _, hI, both_ok (v := 1) (S1 := (S1, L, w)) (SM1 := SM1) (rec := rec) (c := zl v2) e3 (fun h => absurd h (by decide))⟩
  · rw [e1, jcat_t]
    rw [if_neg (show ¬ 1 + 1 = 1 by decide)]
    rw [if_pos (show 1 + 1 = 2 from rfl)]
    rw [jbin0_s, chk_t (scr_1 h hN), chk_t (scr_2 h hN), chk_t (scr_3 h hN), e2, jbin0_s]
    exact ⟨_, _, _, _, hI, both_ok (v := 2) (S1 := (S1, L, w)) (SM1 := SM1) (rec := rec) (c := zl v2) e3 (fun h => absurd h (by decide))⟩
  · exact absurd rfl e4
theorem turn_13 {N : Nat} {xs : Nat → Int32} {i : Nat} {S : jS} {L : jLg} {w : Nat → Int64} {SM : jS} {rec : jS → jLg → (Nat → Int64) → jS → Option Int32} (h : i + 6 ≤ N) (hN : N ≤ 3072) {I : jS → jLg → jS → Prop} (ha : ∀ p1 p2 : Int32, AG (f_X10_view S p1 p2) 1 0 0 (f_X11_view SM p1 p2) (fun S1 SM1 => I S1 L SM1)) : ∃ S1 L1 w1 SM1, I S1 L1 SM1 ∧ lawC_13 N xs (Int32.ofNat i) S L w SM rec = rec S1 L1 w1 SM1 := by
  unfold lawC_13 f_L_view
  rw [chk_t (scr_1 h hN), chk_t (scr_2 h hN)]
  generalize xs (Int32.ofNat i + (1 : Int32)).toNatClampNeg = p1
  generalize xs (Int32.ofNat i + (2 : Int32)).toNatClampNeg = p2
  rcases ha p1 p2 with ⟨v, S1, SM1, e1, e2, e3, hI⟩ | ⟨v, v2, S1, SM1, e1, e2, e3, e4, hI⟩ | ⟨v, v2, S1, SM1, e1, e2, e3, e4, hI⟩ | ⟨v, v2, S1, SM1, e1, e2, e3, e4, hI⟩
  · rw [e1, jcat_0]
    rw [jbin0_s, chk_t (scr_1 h hN), chk_t (scr_2 h hN), e2, jbin0_s]
    exact ⟨_, _, _, _, hI, both_ok (v := 0) (S1 := (S1, L, vp_updL w (0 : Int32).toNatClampNeg v.toInt64)) (SM1 := SM1) (rec := rec) (c := v.toInt64) e3 (fun _ => rfl)⟩
  · rw [e1, jcat_t]
    rw [if_pos (show 0 + 1 = 1 from rfl)]
    rw [jbin0_s, chk_t (scr_1 h hN), chk_t (scr_2 h hN), e2, jbin0_s]
    exact ⟨_, _, _, _, hI, both_ok (v := 1) (S1 := (S1, L, w)) (SM1 := SM1) (rec := rec) (c := v2.toInt64) e3 (fun h => absurd h (by decide))⟩
  · exact absurd rfl e4
  · exact absurd rfl e4
theorem turn_14 {N : Nat} {xs : Nat → Int32} {i : Nat} {S : jS} {L : jLg} {w : Nat → Int64} {SM : jS} {rec : jS → jLg → (Nat → Int64) → jS → Option Int32} (h : i + 6 ≤ N) (hN : N ≤ 3072) {I : jS → jLg → jS → Prop} (ha : ∀ p1 p2 : Int32, AG (f_X10_viewByLog S L p1 p2) 1 0 0 (f_X11_viewByLog SM p1 p2) (fun S1 SM1 => I S1 L SM1)) : ∃ S1 L1 w1 SM1, I S1 L1 SM1 ∧ lawC_14 N xs (Int32.ofNat i) S L w SM rec = rec S1 L1 w1 SM1 := by
  unfold lawC_14 f_L_viewByLog
  rw [chk_t (scr_1 h hN), chk_t (scr_2 h hN)]
  generalize xs (Int32.ofNat i + (1 : Int32)).toNatClampNeg = p1
  generalize xs (Int32.ofNat i + (2 : Int32)).toNatClampNeg = p2
  rcases ha p1 p2 with ⟨v, S1, SM1, e1, e2, e3, hI⟩ | ⟨v, v2, S1, SM1, e1, e2, e3, e4, hI⟩ | ⟨v, v2, S1, SM1, e1, e2, e3, e4, hI⟩ | ⟨v, v2, S1, SM1, e1, e2, e3, e4, hI⟩
  · rw [e1, jcat_0]
    rw [jbin0_s, chk_t (scr_1 h hN), chk_t (scr_2 h hN), e2, jbin0_s]
    exact ⟨_, _, _, _, hI, both_ok (v := 0) (S1 := (S1, L, vp_updL w (0 : Int32).toNatClampNeg v.toInt64)) (SM1 := SM1) (rec := rec) (c := v.toInt64) e3 (fun _ => rfl)⟩
  · rw [e1, jcat_t]
    rw [if_pos (show 0 + 1 = 1 from rfl)]
    rw [jbin0_s, chk_t (scr_1 h hN), chk_t (scr_2 h hN), e2, jbin0_s]
    exact ⟨_, _, _, _, hI, both_ok (v := 1) (S1 := (S1, L, w)) (SM1 := SM1) (rec := rec) (c := v2.toInt64) e3 (fun h => absurd h (by decide))⟩
  · exact absurd rfl e4
  · exact absurd rfl e4
theorem turn_15 {N : Nat} {xs : Nat → Int32} {i : Nat} {S : jS} {L : jLg} {w : Nat → Int64} {SM : jS} {rec : jS → jLg → (Nat → Int64) → jS → Option Int32} (h : i + 6 ≤ N) (hN : N ≤ 3072) {I : jS → jLg → jS → Prop} (ha : ∀ p1 p2 : Int32, AG (f_X10_ruleFor S p1 p2) 1 0 0 (f_X11_ruleFor SM p1 p2) (fun _ SM1 => I S L SM1)) : ∃ S1 L1 w1 SM1, I S1 L1 SM1 ∧ lawC_15 N xs (Int32.ofNat i) S L w SM rec = rec S1 L1 w1 SM1 := by
  unfold lawC_15 f_L_ruleFor
  rw [chk_t (scr_1 h hN), chk_t (scr_2 h hN)]
  generalize xs (Int32.ofNat i + (1 : Int32)).toNatClampNeg = p1
  generalize xs (Int32.ofNat i + (2 : Int32)).toNatClampNeg = p2
  rcases ha p1 p2 with ⟨v, S1, SM1, e1, e2, e3, hI⟩ | ⟨v, v2, S1, SM1, e1, e2, e3, e4, hI⟩ | ⟨v, v2, S1, SM1, e1, e2, e3, e4, hI⟩ | ⟨v, v2, S1, SM1, e1, e2, e3, e4, hI⟩
  · rw [e1, jcat_0]
    rw [jbin0_s, chk_t (scr_1 h hN), chk_t (scr_2 h hN), e2, jbin0_s]
    exact ⟨_, _, _, _, hI, both_ok (v := 0) (S1 := (S, L, vp_updL w (0 : Int32).toNatClampNeg v.toInt64)) (SM1 := SM1) (rec := rec) (c := v.toInt64) e3 (fun _ => rfl)⟩
  · rw [e1, jcat_t]
    rw [if_pos (show 0 + 1 = 1 from rfl)]
    rw [jbin0_s, chk_t (scr_1 h hN), chk_t (scr_2 h hN), e2, jbin0_s]
    exact ⟨_, _, _, _, hI, both_ok (v := 1) (S1 := (S, L, w)) (SM1 := SM1) (rec := rec) (c := v2.toInt64) e3 (fun h => absurd h (by decide))⟩
  · exact absurd rfl e4
  · exact absurd rfl e4
theorem turn_16 {N : Nat} {xs : Nat → Int32} {i : Nat} {S : jS} {L : jLg} {w : Nat → Int64} {SM : jS} {rec : jS → jLg → (Nat → Int64) → jS → Option Int32} (h : i + 6 ≤ N) (hN : N ≤ 3072) {I : jS → jLg → jS → Prop} (ha : ∀ p1 p2 : Int32, AG (f_X10_reach S p1 p2) 1 0 0 (f_X11_reach SM p1 p2) (fun S1 SM1 => I S1 L SM1)) : ∃ S1 L1 w1 SM1, I S1 L1 SM1 ∧ lawC_16 N xs (Int32.ofNat i) S L w SM rec = rec S1 L1 w1 SM1 := by
  unfold lawC_16 f_L_reach
  rw [chk_t (scr_1 h hN), chk_t (scr_2 h hN)]
  generalize xs (Int32.ofNat i + (1 : Int32)).toNatClampNeg = p1
  generalize xs (Int32.ofNat i + (2 : Int32)).toNatClampNeg = p2
  rcases ha p1 p2 with ⟨v, S1, SM1, e1, e2, e3, hI⟩ | ⟨v, v2, S1, SM1, e1, e2, e3, e4, hI⟩ | ⟨v, v2, S1, SM1, e1, e2, e3, e4, hI⟩ | ⟨v, v2, S1, SM1, e1, e2, e3, e4, hI⟩
  · rw [e1, jcat_0]
    rw [jbin0_s, chk_t (scr_1 h hN), chk_t (scr_2 h hN), e2, jbin0_s]
    exact ⟨_, _, _, _, hI, both_ok (v := 0) (S1 := (S1, L, vp_updL w (0 : Int32).toNatClampNeg v.toInt64)) (SM1 := SM1) (rec := rec) (c := v.toInt64) e3 (fun _ => rfl)⟩
  · rw [e1, jcat_t]
    rw [if_pos (show 0 + 1 = 1 from rfl)]
    rw [jbin0_s, chk_t (scr_1 h hN), chk_t (scr_2 h hN), e2, jbin0_s]
    exact ⟨_, _, _, _, hI, both_ok (v := 1) (S1 := (S1, L, w)) (SM1 := SM1) (rec := rec) (c := v2.toInt64) e3 (fun h => absurd h (by decide))⟩
  · exact absurd rfl e4
  · exact absurd rfl e4
theorem turn_17 {N : Nat} {xs : Nat → Int32} {i : Nat} {S : jS} {L : jLg} {w : Nat → Int64} {SM : jS} {rec : jS → jLg → (Nat → Int64) → jS → Option Int32} (h : i + 6 ≤ N) (hN : N ≤ 3072) {I : jS → jLg → jS → Prop} (ha : ∀ p1 p2 : Int32, AG (f_X10_show S L p1 p2) 1 2 0 (f_X11_show SM p1 p2) (fun S1 SM1 => I S1.1 S1.2 SM1)) : ∃ S1 L1 w1 SM1, I S1 L1 SM1 ∧ lawC_17 N xs (Int32.ofNat i) S L w SM rec = rec S1 L1 w1 SM1 := by
  unfold lawC_17 f_L_show
  rw [chk_t (scr_1 h hN), chk_t (scr_2 h hN)]
  generalize xs (Int32.ofNat i + (1 : Int32)).toNatClampNeg = p1
  generalize xs (Int32.ofNat i + (2 : Int32)).toNatClampNeg = p2
  rcases ha p1 p2 with ⟨v, S1, SM1, e1, e2, e3, hI⟩ | ⟨v, v2, S1, SM1, e1, e2, e3, e4, hI⟩ | ⟨v, v2, S1, SM1, e1, e2, e3, e4, hI⟩ | ⟨v, v2, S1, SM1, e1, e2, e3, e4, hI⟩
  · rw [e1, jcat_0]
    rw [jbin0_s, chk_t (scr_1 h hN), chk_t (scr_2 h hN), e2, jbin0_s]
    exact ⟨_, _, _, _, hI, both_ok (v := 0) (S1 := (S1.1, S1.2, vp_updL w (0 : Int32).toNatClampNeg v.toInt64)) (SM1 := SM1) (rec := rec) (c := v.toInt64) e3 (fun _ => rfl)⟩
  · rw [e1, jcat_t]
    rw [if_pos (show 0 + 1 = 1 from rfl)]
    rw [jbin0_s, chk_t (scr_1 h hN), chk_t (scr_2 h hN), e2, jbin0_s]
    exact ⟨_, _, _, _, hI, both_ok (v := 1) (S1 := (S1.1, S1.2, w)) (SM1 := SM1) (rec := rec) (c := v2.toInt64) e3 (fun h => absurd h (by decide))⟩
  · rw [e1, jcat_t]
    rw [if_neg (show ¬ 1 + 1 = 1 by decide)]
    rw [if_pos (show 1 + 1 = 2 from rfl)]
    rw [jbin0_s, chk_t (scr_1 h hN), chk_t (scr_2 h hN), e2, jbin0_s]
    exact ⟨_, _, _, _, hI, both_ok (v := 2) (S1 := (S1.1, S1.2, w)) (SM1 := SM1) (rec := rec) (c := v2.toInt64) e3 (fun h => absurd h (by decide))⟩
  · exact absurd rfl e4
theorem turn_18 {N : Nat} {xs : Nat → Int32} {i : Nat} {S : jS} {L : jLg} {w : Nat → Int64} {SM : jS} {rec : jS → jLg → (Nat → Int64) → jS → Option Int32} (h : i + 6 ≤ N) (hN : N ≤ 3072) {I : jS → jLg → jS → Prop} (ha : ∀ p1 p2 p3 p4 p5 : Int32, AG (f_X10_setShares S p1 p2 p3 p4 p5) 1 2 0 (f_X11_setShares SM p1 p2 p3 p4 p5) (fun S1 SM1 => I S1 L SM1)) : ∃ S1 L1 w1 SM1, I S1 L1 SM1 ∧ lawC_18 N xs (Int32.ofNat i) S L w SM rec = rec S1 L1 w1 SM1 := by
  unfold lawC_18 f_L_setShares
  rw [chk_t (scr_1 h hN), chk_t (scr_2 h hN), chk_t (scr_3 h hN), chk_t (scr_4 h hN), chk_t (scr_5 h hN)]
  generalize xs (Int32.ofNat i + (1 : Int32)).toNatClampNeg = p1
  generalize xs (Int32.ofNat i + (2 : Int32)).toNatClampNeg = p2
  generalize xs (Int32.ofNat i + (3 : Int32)).toNatClampNeg = p3
  generalize xs (Int32.ofNat i + (4 : Int32)).toNatClampNeg = p4
  generalize xs (Int32.ofNat i + (5 : Int32)).toNatClampNeg = p5
  rcases ha p1 p2 p3 p4 p5 with ⟨v, S1, SM1, e1, e2, e3, hI⟩ | ⟨v, v2, S1, SM1, e1, e2, e3, e4, hI⟩ | ⟨v, v2, S1, SM1, e1, e2, e3, e4, hI⟩ | ⟨v, v2, S1, SM1, e1, e2, e3, e4, hI⟩
  · rw [e1, jcat_0]
    rw [jbin0_s, chk_t (scr_1 h hN), chk_t (scr_2 h hN), chk_t (scr_3 h hN), chk_t (scr_4 h hN), chk_t (scr_5 h hN), e2, jbin0_s]
    exact ⟨_, _, _, _, hI, both_ok (v := 0) (S1 := (S1, L, vp_updL w (0 : Int32).toNatClampNeg v.toInt64)) (SM1 := SM1) (rec := rec) (c := v.toInt64) e3 (fun _ => rfl)⟩
  · rw [e1, jcat_t]
    rw [if_pos (show 0 + 1 = 1 from rfl)]
    rw [jbin0_s, chk_t (scr_1 h hN), chk_t (scr_2 h hN), chk_t (scr_3 h hN), chk_t (scr_4 h hN), chk_t (scr_5 h hN), e2, jbin0_s]
    exact ⟨_, _, _, _, hI, both_ok (v := 1) (S1 := (S1, L, w)) (SM1 := SM1) (rec := rec) (c := v2.toInt64) e3 (fun h => absurd h (by decide))⟩
  · rw [e1, jcat_t]
    rw [if_neg (show ¬ 1 + 1 = 1 by decide)]
    rw [if_pos (show 1 + 1 = 2 from rfl)]
    rw [jbin0_s, chk_t (scr_1 h hN), chk_t (scr_2 h hN), chk_t (scr_3 h hN), chk_t (scr_4 h hN), chk_t (scr_5 h hN), e2, jbin0_s]
    exact ⟨_, _, _, _, hI, both_ok (v := 2) (S1 := (S1, L, w)) (SM1 := SM1) (rec := rec) (c := v2.toInt64) e3 (fun h => absurd h (by decide))⟩
  · exact absurd rfl e4
theorem turn_19 {N : Nat} {xs : Nat → Int32} {i : Nat} {S : jS} {L : jLg} {w : Nat → Int64} {SM : jS} {rec : jS → jLg → (Nat → Int64) → jS → Option Int32} (h : i + 6 ≤ N) (hN : N ≤ 3072) {I : jS → jLg → jS → Prop} (ha : ∀ p1 p2 : Int32, AG (f_X10_setSalt S p1 p2) 1 2 0 (f_X11_setSalt SM p1 p2) (fun S1 SM1 => I S1 L SM1)) : ∃ S1 L1 w1 SM1, I S1 L1 SM1 ∧ lawC_19 N xs (Int32.ofNat i) S L w SM rec = rec S1 L1 w1 SM1 := by
  unfold lawC_19 f_L_setSalt
  rw [chk_t (scr_1 h hN), chk_t (scr_2 h hN)]
  generalize xs (Int32.ofNat i + (1 : Int32)).toNatClampNeg = p1
  generalize xs (Int32.ofNat i + (2 : Int32)).toNatClampNeg = p2
  rcases ha p1 p2 with ⟨v, S1, SM1, e1, e2, e3, hI⟩ | ⟨v, v2, S1, SM1, e1, e2, e3, e4, hI⟩ | ⟨v, v2, S1, SM1, e1, e2, e3, e4, hI⟩ | ⟨v, v2, S1, SM1, e1, e2, e3, e4, hI⟩
  · rw [e1, jcat_0]
    rw [jbin0_s, chk_t (scr_1 h hN), chk_t (scr_2 h hN), e2, jbin0_s]
    exact ⟨_, _, _, _, hI, both_ok (v := 0) (S1 := (S1, L, vp_updL w (0 : Int32).toNatClampNeg v.toInt64)) (SM1 := SM1) (rec := rec) (c := v.toInt64) e3 (fun _ => rfl)⟩
  · rw [e1, jcat_t]
    rw [if_pos (show 0 + 1 = 1 from rfl)]
    rw [jbin0_s, chk_t (scr_1 h hN), chk_t (scr_2 h hN), e2, jbin0_s]
    exact ⟨_, _, _, _, hI, both_ok (v := 1) (S1 := (S1, L, w)) (SM1 := SM1) (rec := rec) (c := v2.toInt64) e3 (fun h => absurd h (by decide))⟩
  · rw [e1, jcat_t]
    rw [if_neg (show ¬ 1 + 1 = 1 by decide)]
    rw [if_pos (show 1 + 1 = 2 from rfl)]
    rw [jbin0_s, chk_t (scr_1 h hN), chk_t (scr_2 h hN), e2, jbin0_s]
    exact ⟨_, _, _, _, hI, both_ok (v := 2) (S1 := (S1, L, w)) (SM1 := SM1) (rec := rec) (c := v2.toInt64) e3 (fun h => absurd h (by decide))⟩
  · exact absurd rfl e4
theorem turn_20 {N : Nat} {xs : Nat → Int32} {i : Nat} {S : jS} {L : jLg} {w : Nat → Int64} {SM : jS} {rec : jS → jLg → (Nat → Int64) → jS → Option Int32} (h : i + 6 ≤ N) (hN : N ≤ 3072) {I : jS → jLg → jS → Prop} (ha : ∀ p1 p2 : Int32, AG (f_X10_stop S p1 p2) 1 2 0 (f_X11_stop SM p1 p2) (fun S1 SM1 => I S1 L SM1)) : ∃ S1 L1 w1 SM1, I S1 L1 SM1 ∧ lawC_20 N xs (Int32.ofNat i) S L w SM rec = rec S1 L1 w1 SM1 := by
  unfold lawC_20 f_L_stop
  rw [chk_t (scr_1 h hN), chk_t (scr_2 h hN)]
  generalize xs (Int32.ofNat i + (1 : Int32)).toNatClampNeg = p1
  generalize xs (Int32.ofNat i + (2 : Int32)).toNatClampNeg = p2
  rcases ha p1 p2 with ⟨v, S1, SM1, e1, e2, e3, hI⟩ | ⟨v, v2, S1, SM1, e1, e2, e3, e4, hI⟩ | ⟨v, v2, S1, SM1, e1, e2, e3, e4, hI⟩ | ⟨v, v2, S1, SM1, e1, e2, e3, e4, hI⟩
  · rw [e1, jcat_0]
    rw [jbin0_s, chk_t (scr_1 h hN), chk_t (scr_2 h hN), e2, jbin0_s]
    exact ⟨_, _, _, _, hI, both_ok (v := 0) (S1 := (S1, L, vp_updL w (0 : Int32).toNatClampNeg v.toInt64)) (SM1 := SM1) (rec := rec) (c := v.toInt64) e3 (fun _ => rfl)⟩
  · rw [e1, jcat_t]
    rw [if_pos (show 0 + 1 = 1 from rfl)]
    rw [jbin0_s, chk_t (scr_1 h hN), chk_t (scr_2 h hN), e2, jbin0_s]
    exact ⟨_, _, _, _, hI, both_ok (v := 1) (S1 := (S1, L, w)) (SM1 := SM1) (rec := rec) (c := v2.toInt64) e3 (fun h => absurd h (by decide))⟩
  · rw [e1, jcat_t]
    rw [if_neg (show ¬ 1 + 1 = 1 by decide)]
    rw [if_pos (show 1 + 1 = 2 from rfl)]
    rw [jbin0_s, chk_t (scr_1 h hN), chk_t (scr_2 h hN), e2, jbin0_s]
    exact ⟨_, _, _, _, hI, both_ok (v := 2) (S1 := (S1, L, w)) (SM1 := SM1) (rec := rec) (c := v2.toInt64) e3 (fun h => absurd h (by decide))⟩
  · exact absurd rfl e4
theorem turn_21 {N : Nat} {xs : Nat → Int32} {i : Nat} {S : jS} {L : jLg} {w : Nat → Int64} {SM : jS} {rec : jS → jLg → (Nat → Int64) → jS → Option Int32} (h : i + 6 ≤ N) (hN : N ≤ 3072) {I : jS → jLg → jS → Prop} (ha : ∀ p1 : Int32, AG (f_X10_beginAnew S L p1) 1 2 0 (f_X11_beginAnew SM p1) (fun S1 SM1 => I S1.1 S1.2 SM1)) : ∃ S1 L1 w1 SM1, I S1 L1 SM1 ∧ lawC_21 N xs (Int32.ofNat i) S L w SM rec = rec S1 L1 w1 SM1 := by
  unfold lawC_21 f_L_beginAnew
  rw [chk_t (scr_1 h hN)]
  generalize xs (Int32.ofNat i + (1 : Int32)).toNatClampNeg = p1
  rcases ha p1 with ⟨v, S1, SM1, e1, e2, e3, hI⟩ | ⟨v, v2, S1, SM1, e1, e2, e3, e4, hI⟩ | ⟨v, v2, S1, SM1, e1, e2, e3, e4, hI⟩ | ⟨v, v2, S1, SM1, e1, e2, e3, e4, hI⟩
  · rw [e1, jcat_0]
    rw [jbin0_s, chk_t (scr_1 h hN), e2, jbin0_s]
    exact ⟨_, _, _, _, hI, both_ok (v := 0) (S1 := (S1.1, S1.2, vp_updL w (0 : Int32).toNatClampNeg v.toInt64)) (SM1 := SM1) (rec := rec) (c := v.toInt64) e3 (fun _ => rfl)⟩
  · rw [e1, jcat_t]
    rw [if_pos (show 0 + 1 = 1 from rfl)]
    rw [jbin0_s, chk_t (scr_1 h hN), e2, jbin0_s]
    exact ⟨_, _, _, _, hI, both_ok (v := 1) (S1 := (S1.1, S1.2, w)) (SM1 := SM1) (rec := rec) (c := v2.toInt64) e3 (fun h => absurd h (by decide))⟩
  · rw [e1, jcat_t]
    rw [if_neg (show ¬ 1 + 1 = 1 by decide)]
    rw [if_pos (show 1 + 1 = 2 from rfl)]
    rw [jbin0_s, chk_t (scr_1 h hN), e2, jbin0_s]
    exact ⟨_, _, _, _, hI, both_ok (v := 2) (S1 := (S1.1, S1.2, w)) (SM1 := SM1) (rec := rec) (c := v2.toInt64) e3 (fun h => absurd h (by decide))⟩
  · exact absurd rfl e4
theorem turn_22 {N : Nat} {xs : Nat → Int32} {i : Nat} {S : jS} {L : jLg} {w : Nat → Int64} {SM : jS} {rec : jS → jLg → (Nat → Int64) → jS → Option Int32} (h : i + 6 ≤ N) (hN : N ≤ 3072) {I : jS → jLg → jS → Prop} (ha : ∀ p1 p2 : Int32, AG (f_X10_arm S p1 p2) 1 0 0 (f_X11_arm SM p1 p2) (fun _ SM1 => I S L SM1)) : ∃ S1 L1 w1 SM1, I S1 L1 SM1 ∧ lawC_22 N xs (Int32.ofNat i) S L w SM rec = rec S1 L1 w1 SM1 := by
  unfold lawC_22 f_L_arm
  rw [chk_t (scr_1 h hN), chk_t (scr_2 h hN)]
  generalize xs (Int32.ofNat i + (1 : Int32)).toNatClampNeg = p1
  generalize xs (Int32.ofNat i + (2 : Int32)).toNatClampNeg = p2
  rcases ha p1 p2 with ⟨v, S1, SM1, e1, e2, e3, hI⟩ | ⟨v, v2, S1, SM1, e1, e2, e3, e4, hI⟩ | ⟨v, v2, S1, SM1, e1, e2, e3, e4, hI⟩ | ⟨v, v2, S1, SM1, e1, e2, e3, e4, hI⟩
  · rw [e1, jcat_0]
    rw [jbin0_s, chk_t (scr_1 h hN), chk_t (scr_2 h hN), e2, jbin0_s]
    exact ⟨_, _, _, _, hI, both_ok (v := 0) (S1 := (S, L, vp_updL w (0 : Int32).toNatClampNeg v.toInt64)) (SM1 := SM1) (rec := rec) (c := v.toInt64) e3 (fun _ => rfl)⟩
  · rw [e1, jcat_t]
    rw [if_pos (show 0 + 1 = 1 from rfl)]
    rw [jbin0_s, chk_t (scr_1 h hN), chk_t (scr_2 h hN), e2, jbin0_s]
    exact ⟨_, _, _, _, hI, both_ok (v := 1) (S1 := (S, L, w)) (SM1 := SM1) (rec := rec) (c := v2.toInt64) e3 (fun h => absurd h (by decide))⟩
  · exact absurd rfl e4
  · exact absurd rfl e4
theorem turn_23 {N : Nat} {xs : Nat → Int32} {i : Nat} {S : jS} {L : jLg} {w : Nat → Int64} {SM : jS} {rec : jS → jLg → (Nat → Int64) → jS → Option Int32} (h : i + 6 ≤ N) (hN : N ≤ 3072) {I : jS → jLg → jS → Prop} (ha : ∀ p1 p2 : Int32, AG (f_X10_kept S p1 p2) 1 0 0 (f_X11_kept SM p1 p2) (fun _ SM1 => I S L SM1)) : ∃ S1 L1 w1 SM1, I S1 L1 SM1 ∧ lawC_23 N xs (Int32.ofNat i) S L w SM rec = rec S1 L1 w1 SM1 := by
  unfold lawC_23 f_L_kept
  rw [chk_t (scr_1 h hN), chk_t (scr_2 h hN)]
  generalize xs (Int32.ofNat i + (1 : Int32)).toNatClampNeg = p1
  generalize xs (Int32.ofNat i + (2 : Int32)).toNatClampNeg = p2
  rcases ha p1 p2 with ⟨v, S1, SM1, e1, e2, e3, hI⟩ | ⟨v, v2, S1, SM1, e1, e2, e3, e4, hI⟩ | ⟨v, v2, S1, SM1, e1, e2, e3, e4, hI⟩ | ⟨v, v2, S1, SM1, e1, e2, e3, e4, hI⟩
  · rw [e1, jcat_0]
    rw [jbin0_s, chk_t (scr_1 h hN), chk_t (scr_2 h hN), e2, jbin0_s]
    exact ⟨_, _, _, _, hI, both_ok (v := 0) (S1 := (S, L, vp_updL w (0 : Int32).toNatClampNeg v.toInt64)) (SM1 := SM1) (rec := rec) (c := v.toInt64) e3 (fun _ => rfl)⟩
  · rw [e1, jcat_t]
    rw [if_pos (show 0 + 1 = 1 from rfl)]
    rw [jbin0_s, chk_t (scr_1 h hN), chk_t (scr_2 h hN), e2, jbin0_s]
    exact ⟨_, _, _, _, hI, both_ok (v := 1) (S1 := (S, L, w)) (SM1 := SM1) (rec := rec) (c := v2.toInt64) e3 (fun h => absurd h (by decide))⟩
  · exact absurd rfl e4
  · exact absurd rfl e4
theorem turn_24 {N : Nat} {xs : Nat → Int32} {i : Nat} {S : jS} {L : jLg} {w : Nat → Int64} {SM : jS} {rec : jS → jLg → (Nat → Int64) → jS → Option Int32} (h : i + 6 ≤ N) (hN : N ≤ 3072) {I : jS → jLg → jS → Prop} (ha : ∀ p1 p2 : Int32, AG (f_X10_hold S L p1 p2) 1 2 0 (f_X11_hold SM p1 p2) (fun S1 SM1 => I S1.1 S1.2 SM1)) : ∃ S1 L1 w1 SM1, I S1 L1 SM1 ∧ lawC_24 N xs (Int32.ofNat i) S L w SM rec = rec S1 L1 w1 SM1 := by
  unfold lawC_24 f_L_hold
  rw [chk_t (scr_1 h hN), chk_t (scr_2 h hN)]
  generalize xs (Int32.ofNat i + (1 : Int32)).toNatClampNeg = p1
  generalize xs (Int32.ofNat i + (2 : Int32)).toNatClampNeg = p2
  rcases ha p1 p2 with ⟨v, S1, SM1, e1, e2, e3, hI⟩ | ⟨v, v2, S1, SM1, e1, e2, e3, e4, hI⟩ | ⟨v, v2, S1, SM1, e1, e2, e3, e4, hI⟩ | ⟨v, v2, S1, SM1, e1, e2, e3, e4, hI⟩
  · rw [e1, jcat_0]
    rw [jbin0_s, chk_t (scr_1 h hN), chk_t (scr_2 h hN), e2, jbin0_s]
    exact ⟨_, _, _, _, hI, both_ok (v := 0) (S1 := (S1.1, S1.2, vp_updL w (0 : Int32).toNatClampNeg v.toInt64)) (SM1 := SM1) (rec := rec) (c := v.toInt64) e3 (fun _ => rfl)⟩
  · rw [e1, jcat_t]
    rw [if_pos (show 0 + 1 = 1 from rfl)]
    rw [jbin0_s, chk_t (scr_1 h hN), chk_t (scr_2 h hN), e2, jbin0_s]
    exact ⟨_, _, _, _, hI, both_ok (v := 1) (S1 := (S1.1, S1.2, w)) (SM1 := SM1) (rec := rec) (c := v2.toInt64) e3 (fun h => absurd h (by decide))⟩
  · rw [e1, jcat_t]
    rw [if_neg (show ¬ 1 + 1 = 1 by decide)]
    rw [if_pos (show 1 + 1 = 2 from rfl)]
    rw [jbin0_s, chk_t (scr_1 h hN), chk_t (scr_2 h hN), e2, jbin0_s]
    exact ⟨_, _, _, _, hI, both_ok (v := 2) (S1 := (S1.1, S1.2, w)) (SM1 := SM1) (rec := rec) (c := v2.toInt64) e3 (fun h => absurd h (by decide))⟩
  · exact absurd rfl e4
theorem turn_25 {N : Nat} {xs : Nat → Int32} {i : Nat} {S : jS} {L : jLg} {w : Nat → Int64} {SM : jS} {rec : jS → jLg → (Nat → Int64) → jS → Option Int32} (h : i + 6 ≤ N) (hN : N ≤ 3072) {I : jS → jLg → jS → Prop} (ha : ∀ p1 p2 : Int32, AG (f_X10_release S L p1 p2) 1 2 0 (f_X11_release SM p1 p2) (fun S1 SM1 => I S1.1 S1.2 SM1)) : ∃ S1 L1 w1 SM1, I S1 L1 SM1 ∧ lawC_25 N xs (Int32.ofNat i) S L w SM rec = rec S1 L1 w1 SM1 := by
  unfold lawC_25 f_L_release
  rw [chk_t (scr_1 h hN), chk_t (scr_2 h hN)]
  generalize xs (Int32.ofNat i + (1 : Int32)).toNatClampNeg = p1
  generalize xs (Int32.ofNat i + (2 : Int32)).toNatClampNeg = p2
  rcases ha p1 p2 with ⟨v, S1, SM1, e1, e2, e3, hI⟩ | ⟨v, v2, S1, SM1, e1, e2, e3, e4, hI⟩ | ⟨v, v2, S1, SM1, e1, e2, e3, e4, hI⟩ | ⟨v, v2, S1, SM1, e1, e2, e3, e4, hI⟩
  · rw [e1, jcat_0]
    rw [jbin0_s, chk_t (scr_1 h hN), chk_t (scr_2 h hN), e2, jbin0_s]
    exact ⟨_, _, _, _, hI, both_ok (v := 0) (S1 := (S1.1, S1.2, vp_updL w (0 : Int32).toNatClampNeg v.toInt64)) (SM1 := SM1) (rec := rec) (c := v.toInt64) e3 (fun _ => rfl)⟩
  · rw [e1, jcat_t]
    rw [if_pos (show 0 + 1 = 1 from rfl)]
    rw [jbin0_s, chk_t (scr_1 h hN), chk_t (scr_2 h hN), e2, jbin0_s]
    exact ⟨_, _, _, _, hI, both_ok (v := 1) (S1 := (S1.1, S1.2, w)) (SM1 := SM1) (rec := rec) (c := v2.toInt64) e3 (fun h => absurd h (by decide))⟩
  · rw [e1, jcat_t]
    rw [if_neg (show ¬ 1 + 1 = 1 by decide)]
    rw [if_pos (show 1 + 1 = 2 from rfl)]
    rw [jbin0_s, chk_t (scr_1 h hN), chk_t (scr_2 h hN), e2, jbin0_s]
    exact ⟨_, _, _, _, hI, both_ok (v := 2) (S1 := (S1.1, S1.2, w)) (SM1 := SM1) (rec := rec) (c := v2.toInt64) e3 (fun h => absurd h (by decide))⟩
  · exact absurd rfl e4
theorem turn_26 {N : Nat} {xs : Nat → Int32} {i : Nat} {S : jS} {L : jLg} {w : Nat → Int64} {SM : jS} {rec : jS → jLg → (Nat → Int64) → jS → Option Int32} (h : i + 6 ≤ N) (hN : N ≤ 3072) {I : jS → jLg → jS → Prop} (ha : ∀ p1 : Int32, AG (f_X10_holdTrial S L p1) 1 2 0 (f_X11_holdTrial SM p1) (fun S1 SM1 => I S1.1 S1.2 SM1)) : ∃ S1 L1 w1 SM1, I S1 L1 SM1 ∧ lawC_26 N xs (Int32.ofNat i) S L w SM rec = rec S1 L1 w1 SM1 := by
  unfold lawC_26 f_L_holdTrial
  rw [chk_t (scr_1 h hN)]
  generalize xs (Int32.ofNat i + (1 : Int32)).toNatClampNeg = p1
  rcases ha p1 with ⟨v, S1, SM1, e1, e2, e3, hI⟩ | ⟨v, v2, S1, SM1, e1, e2, e3, e4, hI⟩ | ⟨v, v2, S1, SM1, e1, e2, e3, e4, hI⟩ | ⟨v, v2, S1, SM1, e1, e2, e3, e4, hI⟩
  · rw [e1, jcat_0]
    rw [jbin0_s, chk_t (scr_1 h hN), e2, jbin0_s]
    exact ⟨_, _, _, _, hI, both_ok (v := 0) (S1 := (S1.1, S1.2, vp_updL w (0 : Int32).toNatClampNeg v.toInt64)) (SM1 := SM1) (rec := rec) (c := v.toInt64) e3 (fun _ => rfl)⟩
  · rw [e1, jcat_t]
    rw [if_pos (show 0 + 1 = 1 from rfl)]
    rw [jbin0_s, chk_t (scr_1 h hN), e2, jbin0_s]
    exact ⟨_, _, _, _, hI, both_ok (v := 1) (S1 := (S1.1, S1.2, w)) (SM1 := SM1) (rec := rec) (c := v2.toInt64) e3 (fun h => absurd h (by decide))⟩
  · rw [e1, jcat_t]
    rw [if_neg (show ¬ 1 + 1 = 1 by decide)]
    rw [if_pos (show 1 + 1 = 2 from rfl)]
    rw [jbin0_s, chk_t (scr_1 h hN), e2, jbin0_s]
    exact ⟨_, _, _, _, hI, both_ok (v := 2) (S1 := (S1.1, S1.2, w)) (SM1 := SM1) (rec := rec) (c := v2.toInt64) e3 (fun h => absurd h (by decide))⟩
  · exact absurd rfl e4
theorem turn_27 {N : Nat} {xs : Nat → Int32} {i : Nat} {S : jS} {L : jLg} {w : Nat → Int64} {SM : jS} {rec : jS → jLg → (Nat → Int64) → jS → Option Int32} (h : i + 6 ≤ N) (hN : N ≤ 3072) {I : jS → jLg → jS → Prop} (ha : ∀ p1 : Int32, AG (f_X10_releaseTrial S L p1) 1 2 0 (f_X11_releaseTrial SM p1) (fun S1 SM1 => I S1.1 S1.2 SM1)) : ∃ S1 L1 w1 SM1, I S1 L1 SM1 ∧ lawC_27 N xs (Int32.ofNat i) S L w SM rec = rec S1 L1 w1 SM1 := by
  unfold lawC_27 f_L_releaseTrial
  rw [chk_t (scr_1 h hN)]
  generalize xs (Int32.ofNat i + (1 : Int32)).toNatClampNeg = p1
  rcases ha p1 with ⟨v, S1, SM1, e1, e2, e3, hI⟩ | ⟨v, v2, S1, SM1, e1, e2, e3, e4, hI⟩ | ⟨v, v2, S1, SM1, e1, e2, e3, e4, hI⟩ | ⟨v, v2, S1, SM1, e1, e2, e3, e4, hI⟩
  · rw [e1, jcat_0]
    rw [jbin0_s, chk_t (scr_1 h hN), e2, jbin0_s]
    exact ⟨_, _, _, _, hI, both_ok (v := 0) (S1 := (S1.1, S1.2, vp_updL w (0 : Int32).toNatClampNeg v.toInt64)) (SM1 := SM1) (rec := rec) (c := v.toInt64) e3 (fun _ => rfl)⟩
  · rw [e1, jcat_t]
    rw [if_pos (show 0 + 1 = 1 from rfl)]
    rw [jbin0_s, chk_t (scr_1 h hN), e2, jbin0_s]
    exact ⟨_, _, _, _, hI, both_ok (v := 1) (S1 := (S1.1, S1.2, w)) (SM1 := SM1) (rec := rec) (c := v2.toInt64) e3 (fun h => absurd h (by decide))⟩
  · rw [e1, jcat_t]
    rw [if_neg (show ¬ 1 + 1 = 1 by decide)]
    rw [if_pos (show 1 + 1 = 2 from rfl)]
    rw [jbin0_s, chk_t (scr_1 h hN), e2, jbin0_s]
    exact ⟨_, _, _, _, hI, both_ok (v := 2) (S1 := (S1.1, S1.2, w)) (SM1 := SM1) (rec := rec) (c := v2.toInt64) e3 (fun h => absurd h (by decide))⟩
  · exact absurd rfl e4
theorem turn_28 {N : Nat} {xs : Nat → Int32} {i : Nat} {S : jS} {L : jLg} {w : Nat → Int64} {SM : jS} {rec : jS → jLg → (Nat → Int64) → jS → Option Int32} (h : i + 6 ≤ N) (hN : N ≤ 3072) {I : jS → jLg → jS → Prop} (ha : ∀ p1 p2 : Int32, AG (f_X10_isHeld S p1 p2) 1 0 0 (f_X11_isHeld SM p1 p2) (fun _ SM1 => I S L SM1)) : ∃ S1 L1 w1 SM1, I S1 L1 SM1 ∧ lawC_28 N xs (Int32.ofNat i) S L w SM rec = rec S1 L1 w1 SM1 := by
  unfold lawC_28 f_L_isHeld
  rw [chk_t (scr_1 h hN), chk_t (scr_2 h hN)]
  generalize xs (Int32.ofNat i + (1 : Int32)).toNatClampNeg = p1
  generalize xs (Int32.ofNat i + (2 : Int32)).toNatClampNeg = p2
  rcases ha p1 p2 with ⟨v, S1, SM1, e1, e2, e3, hI⟩ | ⟨v, v2, S1, SM1, e1, e2, e3, e4, hI⟩ | ⟨v, v2, S1, SM1, e1, e2, e3, e4, hI⟩ | ⟨v, v2, S1, SM1, e1, e2, e3, e4, hI⟩
  · rw [e1, jcat_0]
    by_cases hv : v = (0 : Int32)
    · rw [if_pos hv, jbin0_s, chk_t (scr_1 h hN), chk_t (scr_2 h hN), e2, jbin0_s]
      refine ⟨_, _, _, _, hI, both_ok (v := 0) (S1 := (S, L, vp_updL w (0 : Int32).toNatClampNeg (0 : Int64))) (SM1 := SM1) (rec := rec) (c := zl v) e3 (fun _ => ?_)⟩
      rw [hv]
      rfl
    · rw [if_neg hv, jbin0_s, chk_t (scr_1 h hN), chk_t (scr_2 h hN), e2, jbin0_s]
      refine ⟨_, _, _, _, hI, both_ok (v := 0) (S1 := (S, L, vp_updL w (0 : Int32).toNatClampNeg (1 : Int64))) (SM1 := SM1) (rec := rec) (c := zl v) e3 (fun _ => ?_)⟩
      unfold zl
      rw [if_neg hv]
      rfl
  · rw [e1, jcat_t]
    rw [if_pos (show 0 + 1 = 1 from rfl)]
    rw [jbin0_s, chk_t (scr_1 h hN), chk_t (scr_2 h hN), e2, jbin0_s]
    exact ⟨_, _, _, _, hI, both_ok (v := 1) (S1 := (S, L, w)) (SM1 := SM1) (rec := rec) (c := zl v2) e3 (fun h => absurd h (by decide))⟩
  · exact absurd rfl e4
  · exact absurd rfl e4
theorem turn_30 {N : Nat} {xs : Nat → Int32} {i : Nat} {S : jS} {L : jLg} {w : Nat → Int64} {SM : jS} {rec : jS → jLg → (Nat → Int64) → jS → Option Int32} (h : i + 6 ≤ N) (hN : N ≤ 3072) {I : jS → jLg → jS → Prop} (ha : ∀ p1 p2 : Int32, AG (f_X10_shownLast S p1 p2) 1 0 0 (f_X11_shownLast SM p1 p2) (fun _ SM1 => I S L SM1)) : ∃ S1 L1 w1 SM1, I S1 L1 SM1 ∧ lawC_30 N xs (Int32.ofNat i) S L w SM rec = rec S1 L1 w1 SM1 := by
  unfold lawC_30 f_L_shownLast
  rw [chk_t (scr_1 h hN), chk_t (scr_2 h hN)]
  generalize xs (Int32.ofNat i + (1 : Int32)).toNatClampNeg = p1
  generalize xs (Int32.ofNat i + (2 : Int32)).toNatClampNeg = p2
  rcases ha p1 p2 with ⟨v, S1, SM1, e1, e2, e3, hI⟩ | ⟨v, v2, S1, SM1, e1, e2, e3, e4, hI⟩ | ⟨v, v2, S1, SM1, e1, e2, e3, e4, hI⟩ | ⟨v, v2, S1, SM1, e1, e2, e3, e4, hI⟩
  · rw [e1, jcat_0]
    rw [jbin0_s, chk_t (scr_1 h hN), chk_t (scr_2 h hN), e2, jbin0_s]
    exact ⟨_, _, _, _, hI, both_ok (v := 0) (S1 := (S, L, vp_updL w (0 : Int32).toNatClampNeg v.toInt64)) (SM1 := SM1) (rec := rec) (c := v.toInt64) e3 (fun _ => rfl)⟩
  · rw [e1, jcat_t]
    rw [if_pos (show 0 + 1 = 1 from rfl)]
    rw [jbin0_s, chk_t (scr_1 h hN), chk_t (scr_2 h hN), e2, jbin0_s]
    exact ⟨_, _, _, _, hI, both_ok (v := 1) (S1 := (S, L, w)) (SM1 := SM1) (rec := rec) (c := v2.toInt64) e3 (fun h => absurd h (by decide))⟩
  · exact absurd rfl e4
  · exact absurd rfl e4
end TRN2
