section INI
theorem arr_0 {b n : Nat} (hn : n = 6 ∨ n = 8) : ∃ S pos v, f_X4_arrange zS b n = some (0, v, S) ∧ frO (b + 2) S zS ∧ OrdC S (b + 2) n pos := by
  obtain ⟨S, pos, v, e, h1, h2, _⟩ := f_arrange (S := zS) (b0 := b) (n := n) (rank := fun i => i) hn (fun _ _ => bits_0) (fun i hi => ⟨hi, fun j _ h => by
    have : bt (0 : Int32) j = true := h
    rw [bt_0] at this
    exact absurd this (by decide)⟩)
  exact ⟨S, pos, v, e, h1, h2⟩
/-- a new house is as the invariant says -/
theorem inv_0 {SG SH : jS} {p6 p8 : Nat → Nat} (hG : frO 29 SG zS) (hGo : OrdC SG 29 6 p6) (hH : frO 64 SH zS) (hHo : OrdC SH 64 8 p8) :
    InvL (sF SG SH (fg3 68 (fg1 68 0 zS)) (fun p => fg3 (82 + 12 * p) (fg1 (82 + 12 * p) 0 zS))) [] zS := by
  generalize hS : sF SG SH (fg3 68 (fg1 68 0 zS)) (fun p => fg3 (82 + 12 * p) (fg1 (82 + 12 * p) 0 zS)) = S
  have a1 : ∀ q j, q < 24 → S q j = 0 := fun q j h => by
    rw [← hS]
    unfold sF
    rw [if_pos h]
  have a2 : ∀ q j, 24 ≤ q → q < 30 → S q j = SG q j := fun q j h h1 => by
    rw [← hS]
    unfold sF sA
    rw [if_neg (by omega), if_pos (by omega), if_pos h1]
  have a3 : ∀ q j, 30 ≤ q → q < 61 → S q j = 0 := fun q j h h1 => by
    rw [← hS]
    unfold sF sA
    rw [if_neg (by omega), if_pos h1, if_neg (by omega)]
  have a4 : ∀ q j, 61 ≤ q → q < 65 → S q j = SH q j := fun q j h h1 => by
    rw [← hS]
    unfold sF
    rw [if_neg (by omega), if_neg (by omega), if_pos h1]
  have a5 : ∀ p r j, p < 20 → r < 12 → S (82 + 12 * p + r) j = fg3 (82 + 12 * p) (fg1 (82 + 12 * p) 0 zS) (82 + 12 * p + r) j := fun p r j hp hr => by
    rw [← hS]
    unfold sF
    rw [if_neg (by omega), if_neg (by omega), if_neg (by omega), if_neg (by omega), if_neg (by omega), if_pos (by omega)]
    have e : (82 + 12 * p + r - 82) / 12 = p := by omega
    rw [e]
  have a6 : ∀ q j, 322 ≤ q → q < 346 → S q j = 0 := fun q j h h1 => by
    rw [← hS]
    unfold sF
    rw [if_neg (by omega), if_neg (by omega), if_neg (by omega), if_neg (by omega), if_neg (by omega), if_neg (by omega), if_pos h1]
  have a7 : ∀ q j, 346 ≤ q → S q j = if (q - 346) % 2 = 0 ∧ j = 2 then -1 else 0 := fun q j h => by
    rw [← hS]
    unfold sF
    rw [if_neg (by omega), if_neg (by omega), if_neg (by omega), if_neg (by omega), if_neg (by omega), if_neg (by omega), if_neg (by omega)]
  clear hS
  have gP : ∀ p, p < 20 → getP (82 + 12 * p) S = P0 := fun p hp => by
    rw [← getP_forget (S := zS) (b := 82 + 12 * p)]
    exact getP_c fun r j hr => a5 p r j hp (by have := inP_le hr; omega)
  refine ⟨fun p hp => ⟨fun k hk => a1 _ _ (by omega), a1 _ _ (by omega), fun k hk => Int32.le_refl _⟩, fun a ha => ⟨0, by omega, a3 _ _ (by omega) (by omega), rfl, fun j hj => ?_⟩, ⟨fun _ => 0, fun _ _ => 0, p6, fun a ha => ⟨⟨⟨Nat.zero_le _, a3 (39 + 4 * a) 1 (by omega) (by omega)⟩, fun j hj => absurd hj (Nat.not_lt_zero _)⟩, Or.inl rfl⟩, fun a ha => ⟨rfl, fun j hj => a3 (40 + 4 * a) j (by omega) (by omega)⟩, ⟨fun j hj => by rw [a2 29 j (by omega) (by omega)]; exact hGo.1 j hj, fun i hi => by rw [a2 29 _ (by omega) (by omega)]; exact hGo.2 i hi⟩, fun a ha i hi => absurd hi (Nat.not_lt_zero _), fun a ha => ?_, fun a ha => ?_⟩, fun f hf => ⟨0, by omega, a6 _ _ (by omega) (by omega), rfl, fun k hk => ⟨a6 _ _ (by omega) (by omega), a6 _ _ (by omega) (by omega), ⟨0, by omega, rfl⟩, 0, by omega, rfl⟩⟩, ⟨fun f hf => ?_, p8, ⟨fun j hj => by rw [a4 64 j (by omega) (by omega)]; exact hHo.1 j hj, fun i hi => by rw [a4 64 _ (by omega) (by omega)]; exact hHo.2 i hi⟩, fun i hi j hj hb => ?_⟩, fun t ht => ⟨?_, ⟨0, by omega, rfl⟩, ⟨0, by omega, rfl, ?_⟩, ?_, Or.inl rfl, fun v hv => ⟨?_, 0, by omega, rfl⟩⟩, fun p hp => IP1_P.mpr ?_, ⟨by show 0 ≤ 400; omega, rfl, fun e he => absurd he (by simp), fun p hp => gP p hp⟩⟩
  · rw [a3 _ _ (by omega) (by omega)]
    exact ⟨rfl, by decide, by decide⟩
  · rw [a2 28 a (by omega) (by omega), hG 28 a (by omega)]
    exact RF_0
  · have e30 : S 30 a = 0 := a3 _ _ (by omega) (by omega)
    refine ⟨by rw [e30]; exact bits_0, fun p hp => ?_⟩
    rw [e30, bt_0]
    rfl
  · rw [a4 63 f (by omega) (by omega), hH 63 f (by omega)]
    exact ⟨rfl, bits_0⟩
  · rw [a4 63 i (by omega) (by omega), hH 63 i (by omega)] at hb
    have : bt (0 : Int32) j = true := hb
    rw [bt_0] at this
    exact absurd this (by decide)
  · rw [a7 _ _ (by omega), if_neg (by omega)]
  · rw [a7 _ _ (by omega), if_pos (by omega)]
    rfl
  · rw [a7 _ _ (by omega), if_neg (by omega)]
  · rw [a7 _ _ (by omega), if_neg (by omega)]
  · rw [gP p hp]
    have hm1 : ∀ r j, ((r = 1 ∧ j < 6) ∨ (3 ≤ r ∧ r ≤ 9 ∧ j < 8)) → P0 r j = -1 := fun r j h => if_pos h
    have h0 : ∀ r j, ¬ ((r = 1 ∧ j < 6) ∨ (3 ≤ r ∧ r ≤ 9 ∧ j < 8)) → P0 r j = 0 := fun r j h => if_neg h
    refine ⟨fun t ht => ⟨0, by omega, rfl, ?_⟩, fun t ht f hf => ?_, fun f hf => ⟨?_, ?_, ?_, bits_0, fun t ht _ => bt_0⟩⟩
    · rw [hm1 _ _ (by omega)]
      rfl
    · rw [hm1 _ _ (by omega)]
      rfl
    · rw [hm1 _ _ (by omega)]
      rfl
    · rw [h0 _ _ (by omega)]
    · rw [h0 _ _ (by omega)]
end INI
