section RGP
/-- what a past shows and freezes is a variant -/
def RgP (P : jS) : Prop := (∀ t, t < 6 → ∀ f, f < 8 → ∃ k, k ≤ 4 ∧ P (3 + t) f = Int32.ofNat k - 1) ∧ ∀ f, f < 8 → (∃ k, k ≤ 4 ∧ P 9 f = Int32.ofNat k - 1) ∧ ∃ k, k ≤ 3 ∧ P 11 f = Int32.ofNat k
theorem rg_up {v : Int32} (h : ∃ k, k ≤ 3 ∧ v = Int32.ofNat k) : ∃ k, k ≤ 4 ∧ v = Int32.ofNat k - 1 := by
  obtain ⟨k, hk, e⟩ := h
  refine ⟨k + 1, by omega, ?_⟩
  rw [n32_pred (by omega), e]
  rfl
theorem rg_down {v : Int32} (h : ∃ k, k ≤ 4 ∧ v = Int32.ofNat k - 1) (hne : v ≠ -1) : ∃ k, k ≤ 3 ∧ v = Int32.ofNat k := by
  obtain ⟨k, hk, e⟩ := h
  rcases Nat.eq_zero_or_pos k with h0 | h0
  · subst h0
    exact absurd e hne
  · exact ⟨k - 1, by omega, by rw [e, n32_pred h0]⟩
theorem ent_t {e : Nat → Int32} (he : EntOk e) (h : ¬ (e 0 = 0 ∨ e 0 = 1)) (h2 : ¬ e 0 = 2) (h3 : ¬ e 0 = 3) : (e 3).toNatClampNeg < 6 := by
  rcases he with h9 | h9 | h9 | h9 | ⟨_, t, ht, et⟩ | ⟨_, t, ht, et⟩ | ⟨_, t, ht, et⟩
  · exact absurd (Or.inl h9.1) h
  · exact absurd (Or.inr h9.1) h
  · exact absurd h9.1 h2
  · exact absurd h9.1 h3
  · rw [et, n32_c (by omega)]
    exact ht
  · rw [et, n32_c (by omega)]
    exact ht
  · rw [et, n32_c (by omega)]
    exact ht
theorem RgP_tk {e : Nat → Int32} {P : jS} (he : EntOk e) (hv : EntV e) (h : RgP P) : RgP (tk e P) := by
  have hm : ∃ k, k ≤ 4 ∧ (-1 : Int32) = Int32.ofNat k - 1 := ⟨0, by omega, by decide⟩
  refine ⟨fun t ht f hf => ?_, fun f hf => ⟨?_, ?_⟩⟩ <;> unfold tk
  · by_cases a : e 0 = 0 ∨ e 0 = 1
    · rw [if_pos a]
      have e4 := rg_up (hv (a.imp id Or.inl))
      split
      · exact e4
      · split
        · exact e4
        · split
          · exact e4
          · exact h.1 t ht f hf
    · rw [if_neg a]
      repeat' split
      all_goals first | exact h.1 t ht f hf | exact hm | (exfalso; omega)
  · by_cases a : e 0 = 0 ∨ e 0 = 1
    · rw [if_pos a]
      have e4 := rg_up (hv (a.imp id Or.inl))
      split
      · exact e4
      · split
        · exact e4
        · split
          · exact e4
          · exact (h.2 f hf).1
    · rw [if_neg a]
      repeat' split
      all_goals first | exact (h.2 f hf).1 | exact hm | (exfalso; omega)
  · by_cases a : e 0 = 0 ∨ e 0 = 1
    · rw [if_pos a]
      have e4 := hv (a.imp id Or.inl)
      split
      · exact e4
      · split
        · exact e4
        · split
          · exact e4
          · exact (h.2 f hf).2
    · rw [if_neg a]
      by_cases a2 : e 0 = 2
      · rw [if_pos a2]
        repeat' split
        all_goals first | exact (h.2 f hf).2 | exact hv (Or.inr (Or.inr a2)) | (exfalso; omega)
      · rw [if_neg a2]
        by_cases a3 : e 0 = 3
        · rw [if_pos a3]
          split
          · exfalso; omega
          · exact (h.2 f hf).2
        · have ht := ent_t he a a2 a3
          rw [if_neg a3]
          by_cases a4 : e 0 = 4
          · rw [if_pos a4, if_neg (by omega), if_pos ⟨rfl, hf⟩]
            by_cases hn : P (3 + (e 3).toNatClampNeg) f = -1
            · rw [if_pos hn]
              exact (h.2 f hf).2
            · rw [if_neg hn]
              split
              · exact rg_down (h.1 _ ht f hf) hn
              · exact (h.2 f hf).2
          · rw [if_neg a4]
            repeat' split
            all_goals first | exact (h.2 f hf).2 | (exfalso; omega)
theorem RgP_0 : RgP P0 := by
  refine ⟨fun t ht f hf => ⟨0, by omega, ?_⟩, fun f hf => ⟨⟨0, by omega, ?_⟩, 0, by omega, ?_⟩⟩ <;> unfold P0
  · rw [if_pos (Or.inr ⟨by omega, by omega, hf⟩)]
    decide
  · rw [if_pos (Or.inr ⟨by omega, by omega, hf⟩)]
    decide
  · rw [if_neg (by omega)]
    rfl
theorem RgP_fold {p : Int32} : ∀ (L : jLg) (P : jS), (∀ e, e ∈ L → EntOk e ∧ EntV e) → RgP P → RgP (L.foldl (fun P e => if e 1 = -1 ∨ e 1 = p then tk e P else P) P)
  | [], _, _, h => h
  | e :: L, P, hL, h => by
    refine RgP_fold L _ (fun e9 h9 => hL e9 (List.mem_cons_of_mem _ h9)) ?_
    obtain ⟨h1, h2⟩ := hL e List.mem_cons_self
    show RgP (if e 1 = -1 ∨ e 1 = p then tk e P else P)
    by_cases hc : e 1 = -1 ∨ e 1 = p
    · rw [if_pos hc]
      exact RgP_tk h1 h2 h
    · rw [if_neg hc]
      exact h
theorem inv_rg {S SM : jS} {L : jLg} (h : InvL S L SM) {p : Nat} (hp : p < 20) : RgP (getP (82 + 12 * p) S) := by
  obtain ⟨_, _, h3, h4⟩ := h.2.2.2.2.2.2.2
  rw [h4 p hp]
  exact RgP_fold L P0 h3 RgP_0
/-- the view is a variant -/
theorem vwM_rg {S SM : jS} {L : jLg} (h : InvL S L SM) {p f : Nat} (hp : p < 20) (hf : f < 8) : ∃ k, k ≤ 3 ∧ vwM SM p f = Int32.ofNat k := by
  obtain ⟨D, eD, ev⟩ := (inv_views h).2.2 p hp f hf
  obtain ⟨G, eg, hfG, hmG⟩ := inv_gather h
  have hI := inv_fr h frX_r (frG_M hfG)
  obtain ⟨D1, eD1, _, m, hm, em⟩ := dv_eq (S := S) (SM := G) (p := p) (f := f) (a3 := 30) (b4 := 82 + 12 * p) hI.2.2.2.1 hI.2.2.2.2.2.1 (hI.2.2.2.2.2.2.1 p hp).1 hmG hp hf
  have hD : D = D1 := by
    have := congrArg (fun o : Option (jR Unit) => o.map fun r => r.2.1) (eD.symm.trans eD1)
    exact Option.some.inj this
  obtain ⟨k, hk, ek⟩ := ((inv_rg h hp).2 f hf).2
  rw [getP_at (in_11 hf), ((h.2.2.2.2.2.2.1 p hp).2.2 f hf).2.2.1] at ek
  rw [ev]
  unfold stepV
  split
  · split
    · exact ⟨0, by omega, rfl⟩
    · exact ⟨m, hm, hD.trans em⟩
  · exact ⟨k, hk, ek⟩
theorem vwM_big {S SM : jS} {L : jLg} (h : InvL S L SM) {p f : Nat} (hp : p < 20) (hf : f < 8) : vwM SM p f ≠ -99999 := by
  obtain ⟨k, hk, e⟩ := vwM_rg h hp hf
  rw [e]
  exact n32_big (by omega)
end RGP
