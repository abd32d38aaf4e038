section MEE
/-- who meets a rule, in the class -/
theorem f_whoMeets {c : Nat → Int32} {n b a3 : Nat} {S : jS} (hv : n = 0 ∨ Valid c n) (ht : TxC S b n) (hc : ∀ j, j < n → S (b + 1) j = c j) (hb : b < 33 ∨ 36 < b) (hb1 : b + 1 < 33 ∨ 36 < b + 1) (ha : a3 < 33 ∨ 36 < a3) :
    ∃ W S1, f_X2_whoMeets S b a3 = some (0, W, S1) ∧ bits 20 W ∧ (∀ p, p < 20 → bt W p = ev (tst (fun p k => S (3 + p) k) (S 23) (S a3) c n p) c n) ∧ ∀ q j, (q < 33 ∨ 36 < q) → S1 q j = S q j := by
  have hn := ht.1
  by_cases h0 : n = 0
  · refine ⟨0, S, ?_, bits_0, fun p hp => ?_, fun _ _ _ => rfl⟩
    · unfold f_X2_whoMeets
      rw [if_pos (by rw [ht.2, h0]; rfl)]
    · rw [h0, bt_0]
      rfl
  · have hv : Valid c n := hv.resolve_left h0
    have e0 : (Int32.ofNat n = (0 : Int32)) = (n = 0) := n32_eq (b := 0) (by omega) (by omega)
    unfold f_X2_whoMeets letE
    rw [ht.2]
    simp only [e0]
    rw [if_neg h0, f_beg (d := 0) (S := jset S 33 3 0) (by omega) (jset_at.trans n32_z.symm), jbin0_s]
    have hfin : ∀ S4 : jS, (∀ q j, (q < 33 ∨ 36 < q) → S4 q j = S q j) → S4 b 1 = Int32.ofNat n := fun S4 h => (h b 1 hb).trans ht.2
    have h := wq_for (F := fun (rec3 : jS → Int32 → Option (jR jS)) (S4 : jS) (x5 : Int32) => (if (S4 b 1) ≤ x5 then chk (inb (0 : Int32) 9) (chk (inb (0 : Int32) 9) (some (0, ((S4 34 (0 : Int32).toNatClampNeg) ||| (S4 35 (0 : Int32).toNatClampNeg)), S4))) else jbin0 (f_X2_readSign S4 b x5 a3) (fun _ S8 => rec3 S8 (x5 + (1 : Int32))))) (bot := fun _ _ => none)
      (Q := fun t v S9 => t = 0 ∧ bits 20 v ∧ (∀ p, p < 20 → bt v p = ev (tst (fun p k => S (3 + p) k) (S 23) (S a3) c n p) c n) ∧ ∀ q j, (q < 33 ∨ 36 < q) → S9 q j = S q j)
      (fun K i (a : jS) => K a i) n (fun i S4 => RC (fun p => tst (fun p k => S (3 + p) k) (S 23) (S a3) c n p) c i S4 ∧ ∀ q j, (q < 33 ∨ 36 < q) → S4 q j = S q j) (fun rec i S4 hi hP ih => ?_) (fun rec S4 hP => ?_) n 0 1000 (jset (jset (jset (jset S 33 3 0) 34 0 0) 35 0 1048575) 36 0 0) (by omega) (by omega) ⟨⟨?_, fun j hj => ?_⟩, fun q j hq => ?_⟩
    · obtain ⟨t, v, S1, e, rfl, h1, h2, h3⟩ := wq_ex h
      exact ⟨v, S1, e, h1, h2, h3⟩
    · dsimp only
      have e1 : (Int32.ofNat n ≤ Int32.ofNat i) = (n ≤ i) := n32_le (by omega) (by omega)
      rw [hfin S4 hP.2]
      simp only [e1]
      rw [if_neg (by omega)]
      obtain ⟨S1, e2, h1, h2⟩ := f_read (a3 := a3) hv ⟨hn, hfin S4 hP.2⟩ (fun j hj => (hP.2 (b + 1) j hb1).trans (hc j hj)) hi hP.1 (fun p hp _ => by
        unfold tst
        dsimp only
        rw [hP.2 23 p (by omega), hP.2 a3 _ ha, hP.2 (3 + p) _ (by omega)])
      rw [e2, jbin0_s, n32_succ]
      exact ih S1 ⟨h1, fun q j hq => (h2 q j hq).trans (hP.2 q j hq)⟩
    · dsimp only
      rw [hfin S4 hP.2, if_pos (Int32.le_refl _)]
      have hz : (rd c n).2 = 0 := hv.2.1
      obtain ⟨g1, g2, g3⟩ := hP.1.2 0 (by omega)
      rw [chk_t (by decide)]
      refine ⟨rfl, bits_or g1 g2, fun p hp => ?_, hP.2⟩
      obtain ⟨a1, a2, _⟩ := g3 p hp
      rw [bt_or]
      show (bt (S4 34 0) p || bt (S4 35 0) p) = _
      rw [a1, a2]
      unfold ev
      simp [show 0 < n by omega]
    · rw [jset_ne (by omega), jset_ne (by omega), jset_ne (by omega), jset_at]
      rfl
    · have hj : j = 0 := by
        have : (rd c 0).2 = 0 := rfl
        omega
      subst hj
      have e34 : jset (jset (jset (jset S 33 3 0) 34 0 0) 35 0 1048575) 36 0 0 34 0 = 0 := by rw [jset_ne (by omega), jset_ne (by omega), jset_at]
      have e35 : jset (jset (jset (jset S 33 3 0) 34 0 0) 35 0 1048575) 36 0 0 35 0 = 1048575 := by rw [jset_ne (by omega), jset_at]
      have e36 : jset (jset (jset (jset S 33 3 0) 34 0 0) 35 0 1048575) 36 0 0 36 0 = 0 := jset_at
      rw [e34, e35, e36]
      refine ⟨bits_0, fun k h8 h9 => by rw [bt_every h9]; simp; omega, fun p hp => ?_⟩
      rw [bt_0, bt_every (by omega)]
      exact ⟨rfl, by simp [hp]; rfl, rfl⟩
    · rw [jset_ne (by omega), jset_ne (by omega), jset_ne (by omega), jset_ne (by omega)]
end MEE
