section TRN
theorem n32_six : ∀ N : Nat, N < 6 → Int32.ofNat N - (6 : Int32) < 0 := by decide
theorem n32_sub6 {N : Nat} (h : 6 ≤ N) : Int32.ofNat N - (6 : Int32) = Int32.ofNat (N - 6) := by
  have e : Int32.ofNat N = Int32.ofNat (N - 6) + (6 : Int32) := by
    rw [show N = (N - 6) + 6 by omega, Int32.ofNat_add, Nat.add_sub_cancel]
    rfl
  rw [e, Int32.add_sub_cancel]
/-- where a script is at its end -/
theorem n32_end {N i : Nat} (hN : N ≤ 10000) (hi : i ≤ 10000) : Int32.ofNat N - (6 : Int32) < Int32.ofNat i ↔ N < i + 6 := by
  rcases Nat.lt_or_ge N 6 with h | h
  · refine ⟨fun _ => by omega, fun _ => ?_⟩
    refine Int32.lt_iff_toInt_lt.mpr ?_
    have h1 := Int32.lt_iff_toInt_lt.mp (n32_six N h)
    rw [Int32.toInt_ofNat_of_lt (by omega)]
    have h2 : (Int32.ofNat N - (6 : Int32)).toInt < 0 := h1
    omega
  · rw [n32_sub6 h, Int32.lt_iff_toInt_lt, Int32.toInt_ofNat_of_lt (by omega), Int32.toInt_ofNat_of_lt (by omega)]
    omega
/-- the law out of an invariant that every turn keeps -/
theorem law_turns {N : Nat} {xs : Nat → Int32} {Inv : jS → jLg → (Nat → Int64) → jS → Prop} (hN : N ≤ 3072)
    (H : ∀ (i : Nat) (S : jS) (L : jLg) (w : Nat → Int64) (SM : jS) (rec : jS → jLg → (Nat → Int64) → jS → Option Int32), i + 6 ≤ N → Inv S L w SM → ∃ S1 L1 w1 SM1, Inv S1 L1 w1 SM1 ∧ lawStep N xs (Int32.ofNat i) S L w SM rec = rec S1 L1 w1 SM1) :
    ∀ (n i : Nat) (S : jS) (L : jLg) (w : Nat → Int64) (SM : jS), i ≤ 4000 → Inv S L w SM → N < i + 6 * n → 0 < n → lawF N xs n (Int32.ofNat i) S L w SM = some 1
  | 0, _, _, _, _, _, _, _, _, h0 => absurd h0 (Nat.lt_irrefl _)
  | n + 1, i, S, L, w, SM, hi, hI, hn, _ => by
    by_cases he : N < i + 6
    · show lawStep N xs (Int32.ofNat i) S L w SM _ = _
      unfold lawStep
      rw [if_pos ((n32_end (by omega) (by omega)).mpr he)]
    · obtain ⟨S1, L1, w1, SM1, hI1, e⟩ := H i S L w SM (lawF N xs n (Int32.ofNat i + (6 : Int32))) (by omega) hI
      refine (show lawF N xs (n + 1) (Int32.ofNat i) S L w SM = lawStep N xs (Int32.ofNat i) S L w SM (lawF N xs n (Int32.ofNat i + (6 : Int32))) from rfl).trans (e.trans ?_)
      have e6 : Int32.ofNat i + (6 : Int32) = Int32.ofNat (i + 6) := by
        rw [Int32.ofNat_add]
        rfl
      rw [e6]
      exact law_turns hN H n (i + 6) S1 L1 w1 SM1 (by omega) hI1 (by omega) (by omega)
theorem law_29 {S : jS} {L : jLg} {w : Nat → Int64} {SM : jS} {rec : jS → jLg → (Nat → Int64) → jS → Option Int32} (h : SM 358 30 = Int32.ofNat L.length) : lawC_29 S L w SM rec = rec S L w (jset SM 358 0 0) := by
  unfold lawC_29
  rw [f_entries, jbin0_s, m_entries, jbin0_s, if_pos h.symm]
end TRN
