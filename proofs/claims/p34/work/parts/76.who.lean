section WHO
theorem f_who_cmp {S : jS} {k : Nat} {r x : Int32} (hk : k < 3) : ∃ W, f_X6_whoCompares S (Int32.ofNat k) r x = some (0, W, ()) ∧ bits 20 W ∧ ∀ p, p < 20 → bt W p = cmpB r (S (3 + p) k) x := by
  have h := wq_for (F := fun (rec1 : Int32 → Int32 → Option (jR Unit)) (x2 : Int32) (x3 : Int32) => (if (20 : Int32) ≤ x3 then some (0, x2, ()) else chk (inb x3 20) (chk (inb (Int32.ofNat k) 3) (letE ((S (3 + x3.toNatClampNeg) (Int32.ofNat k).toNatClampNeg)) fun x5 => joinK (fun (x7 : Int32) => jbin0 (f_X10_withBit x2 x3 x7) (fun v8 _ => letE (x3 + (1 : Int32)) fun x9 => rec1 v8 x9)) (fun k6 => (if r = (61 : Int32) then (if x5 = x then k6 (1 : Int32) else k6 (0 : Int32)) else (if r = (60 : Int32) then (if x ≤ x5 then k6 (0 : Int32) else k6 (1 : Int32)) else (if x5 ≤ x then k6 (0 : Int32) else k6 (1 : Int32))))))))) (bot := fun _ _ => none) (Q := fun t v _ => t = 0 ∧ bits 20 v ∧ ∀ p, p < 20 → bt v p = cmpB r (S (3 + p) k) x)
    (fun K i (a : Int32) => K a i) 20 (fun i a => bits 20 a ∧ ∀ p, p < i → bt a p = cmpB r (S (3 + p) k) x) (fun rec i a hi hP ih => ?_) (fun rec a hP => ?_) 20 0 1000 0 rfl (by omega) ⟨bits_0, fun p hp => absurd hp (Nat.not_lt_zero _)⟩
  · obtain ⟨t, v, S1, e, rfl, h1, h2⟩ := wq_ex h
    exact ⟨v, e, h1, h2⟩
  · dsimp only
    have e20 : ((20 : Int32) ≤ Int32.ofNat i) = (20 ≤ i) := n32_le (n := 20) (by omega) (by omega)
    simp only [e20]
    rw [if_neg (by omega), chk_t (n32_inb (by omega) hi), chk_t (n32_inb (by omega) hk), n32_cl (by omega), n32_cl (by omega)]
    unfold joinK letE
    dsimp only
    have step : ∀ w : Int32, decide (w ≠ 0) = cmpB r (S (3 + i) k) x → wq (jbin0 (f_X10_withBit a (Int32.ofNat i) w) (fun v8 _ => rec v8 (Int32.ofNat i + 1))) (fun t v _ => t = 0 ∧ bits 20 v ∧ ∀ p, p < 20 → bt v p = cmpB r (S (3 + p) k) x) := fun w hw => by
      rw [f_withBit, jbin0_s, n32_succ]
      refine ih _ ⟨bits_wb hP.1 hi (by omega), fun p hp => ?_⟩
      rw [wb_bt (by omega) (by omega)]
      by_cases hpi : p = i
      · rw [if_pos hpi, hpi, hw]
      · rw [if_neg hpi]
        exact hP.2 p (by omega)
    by_cases a1 : r = 61
    · rw [if_pos a1]
      by_cases a2 : S (3 + i) k = x
      · rw [if_pos a2]
        exact step 1 (by simp [cmpB, a1, a2])
      · rw [if_neg a2]
        exact step 0 (by simp [cmpB, a1, a2])
    · rw [if_neg a1]
      by_cases a3 : r = 60
      · rw [if_pos a3]
        by_cases a2 : x ≤ S (3 + i) k
        · rw [if_pos a2]
          exact step 0 (by simp [cmpB, a3, Int32.not_lt.mpr a2])
        · rw [if_neg a2]
          exact step 1 (by simp [cmpB, a3, Int32.not_le.mp a2])
      · rw [if_neg a3]
        by_cases a2 : S (3 + i) k ≤ x
        · rw [if_pos a2]
          exact step 0 (by simp [cmpB, a1, a3, Int32.not_lt.mpr a2])
        · rw [if_neg a2]
          exact step 1 (by simp [cmpB, a1, a3, Int32.not_le.mp a2])
  · dsimp only
    rw [if_pos (by decide)]
    exact ⟨rfl, hP.1, hP.2⟩
theorem f_who_tag {S : jS} {k : Nat} (hk : k < 32) : ∃ W, f_X6_whoHasTag S (Int32.ofNat k) = some (0, W, ()) ∧ bits 20 W ∧ ∀ p, p < 20 → bt W p = bt (S 23 p) k := by
  have h := wq_for (F := fun (rec1 : Int32 → Int32 → Option (jR Unit)) (x2 : Int32) (x3 : Int32) => (if (20 : Int32) ≤ x3 then some (0, x2, ()) else chk (inb x3 20) (jbin0 (f_X10_hasBit (S 23 x3.toNatClampNeg) (Int32.ofNat k)) (fun v4 _ => jbin0 (f_X10_withBit x2 x3 v4) (fun v5 _ => letE (x3 + (1 : Int32)) fun x6 => rec1 v5 x6))))) (bot := fun _ _ => none) (Q := fun t v _ => t = 0 ∧ bits 20 v ∧ ∀ p, p < 20 → bt v p = bt (S 23 p) k)
    (fun K i (a : Int32) => K a i) 20 (fun i a => bits 20 a ∧ ∀ p, p < i → bt a p = bt (S 23 p) k) (fun rec i a hi hP ih => ?_) (fun rec a hP => ?_) 20 0 1000 0 rfl (by omega) ⟨bits_0, fun p hp => absurd hp (Nat.not_lt_zero _)⟩
  · obtain ⟨t, v, S1, e, rfl, h1, h2⟩ := wq_ex h
    exact ⟨v, e, h1, h2⟩
  · dsimp only
    have e20 : ((20 : Int32) ≤ Int32.ofNat i) = (20 ≤ i) := n32_le (n := 20) (by omega) (by omega)
    simp only [e20]
    rw [if_neg (by omega), chk_t (n32_inb (by omega) hi), n32_cl (by omega), f_hasBit, jbin0_s, f_withBit, jbin0_s]
    unfold letE
    rw [n32_succ]
    refine ih _ ⟨bits_wb hP.1 hi (by omega), fun p hp => ?_⟩
    rw [wb_bt (by omega) (by omega)]
    by_cases hpi : p = i
    · rw [if_pos hpi, hpi, hb_bt hk]
      cases bt (S 23 i) k <;> rfl
    · rw [if_neg hpi]
      exact hP.2 p (by omega)
  · dsimp only
    rw [if_pos (by decide)]
    exact ⟨rfl, hP.1, hP.2⟩
theorem f_who_in {S : jS} {a a3 : Nat} (ha : a < 6) : f_X2_whoIsIn S (Int32.ofNat a) a3 = some (0, S a3 a, ()) := by
  unfold f_X2_whoIsIn joinK
  dsimp only
  have e6 : ((6 : Int32) ≤ Int32.ofNat a) = (6 ≤ a) := n32_le (n := 6) (by omega) (by omega)
  simp only [e6]
  rw [if_neg (n32_nn (by omega)), if_neg (by omega), chk_t (n32_inb (by omega) ha), n32_cl (by omega)]
theorem f_digitAt {S : jS} {b n i : Nat} (h : TxC S b n) (hi : i ≤ 200) : f_X8_digitAt S b (Int32.ofNat i) = some (0, (if i < n ∧ (48 ≤ S (b + 1) i ∧ S (b + 1) i ≤ 57) then S (b + 1) i - 48 else -1), ()) := by
  unfold f_X8_digitAt joinK letE
  rw [f_signAt h hi, jbin0_s]
  dsimp only
  by_cases h1 : i < n
  · simp only [if_pos h1]
    by_cases h2 : 48 ≤ S (b + 1) i ∧ S (b + 1) i ≤ 57
    · obtain ⟨d, hd, e, _⟩ := dg_of (m := 9) (by omega) h2
      have e9 : ((9 : Int32) < Int32.ofNat d) = (9 < d) := n32_lt' (n := 9) (i := d) (by omega) (by omega)
      rw [if_pos (show i < n ∧ (48 ≤ S (b + 1) i ∧ S (b + 1) i ≤ 57) from ⟨h1, h2⟩), e]
      simp only [e9]
      rw [if_neg (n32_nn (by omega)), if_neg (by omega)]
    · rw [if_neg (show ¬ (i < n ∧ (48 ≤ S (b + 1) i ∧ S (b + 1) i ≤ 57)) from fun h => h2 h.2)]
      have h3 : ¬ (0 ≤ S (b + 1) i - 48 ∧ S (b + 1) i - 48 ≤ 9) := fun h3 => by
        obtain ⟨k, hk, e⟩ := n32_rg (n := 9) (by omega) h3
        have e2 : S (b + 1) i = Int32.ofNat (48 + k) := by
          have : S (b + 1) i = (S (b + 1) i - 48) + 48 := (Int32.sub_add_cancel _ _).symm
          rw [this, e, Nat.add_comm, Int32.ofNat_add]
          rfl
        refine h2 ?_
        rw [e2]
        refine ⟨?_, ?_⟩
        · show Int32.ofNat 48 ≤ _
          rw [n32_le (by omega) (by omega)]
          omega
        · show _ ≤ Int32.ofNat 57
          rw [n32_le (by omega) (by omega)]
          omega
      by_cases a1 : S (b + 1) i - 48 < 0
      · rw [if_pos a1]
      · rw [if_neg a1, if_pos (Int32.not_le.mp fun a2 => h3 ⟨Int32.not_lt.mp a1, a2⟩)]
  · rw [if_neg h1, if_neg (show ¬ (i < n ∧ (48 ≤ S (b + 1) i ∧ S (b + 1) i ≤ 57)) from fun h => h1 h.1)]
    rfl
theorem n32_m1 {k : Nat} (hk : k ≤ 100000) : Int32.ofNat k ≠ -1 := fun h => by
  have h1 := congrArg Int32.toInt h
  rw [Int32.toInt_ofNat_of_lt (by omega)] at h1
  have : (-1 : Int32).toInt = -1 := rfl
  omega
theorem f_numberAt {S : jS} {b n i : Nat} (h : TxC S b n) (hi : i < n) (hd : 48 ≤ S (b + 1) i ∧ S (b + 1) i ≤ 57) : f_X8_numberAt S b (Int32.ofNat i) = some (0, num (S (b + 1)) n i, ()) := by
  have := h.1
  unfold f_X8_numberAt joinK
  rw [f_digitAt h (by omega), jbin0_s, n32_succ, f_digitAt h (by omega), jbin0_s, if_pos (show i < n ∧ (48 ≤ S (b + 1) i ∧ S (b + 1) i ≤ 57) from ⟨hi, hd⟩)]
  dsimp only
  unfold num
  by_cases h1 : i + 1 < n ∧ (48 ≤ S (b + 1) (i + 1) ∧ S (b + 1) (i + 1) ≤ 57)
  · rw [if_pos h1, if_pos h1]
    obtain ⟨d, hd, e, _⟩ := dg_of (m := 9) (by omega) h1.2
    rw [if_neg (by rw [e]; exact n32_m1 (by omega))]
  · rw [if_neg h1, if_neg h1, if_pos rfl]
end WHO
