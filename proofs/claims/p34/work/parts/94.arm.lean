section ARM
def ssum (sh : Nat → Nat) : Nat → Nat
  | 0 => 0
  | i + 1 => ssum sh i + sh i
theorem ssum_le {sh : Nat → Nat} (h : ∀ v, v < 4 → sh v ≤ 100) : ∀ n, n ≤ 4 → ssum sh n ≤ 100 * n
  | 0, _ => Nat.zero_le _
  | n + 1, hn => by
    have ih := ssum_le h n (by omega)
    have := h n (by omega)
    show ssum sh n + sh n ≤ _
    omega
theorem n32_addn {a b : Nat} : Int32.ofNat a + Int32.ofNat b = Int32.ofNat (a + b) := (Int32.ofNat_add a b).symm
theorem f_sum {S : jS} {b : Nat} {sh : Nat → Nat} (hs : ∀ v, v < 4 → S (b + 1) v = Int32.ofNat (sh v)) : f_X9_sumOfShares S b = some (0, Int32.ofNat (ssum sh 4), ()) := by
  suffices hw : wq (f_X9_sumOfShares S b) (fun t v _ => t = 0 ∧ v = Int32.ofNat (ssum sh 4)) by
    obtain ⟨t, v, S1, e, rfl, rfl⟩ := wq_ex hw
    exact e
  unfold f_X9_sumOfShares
  refine wq_let (wq_for (fun (K : Int32 → Int32 → Option (jR Unit)) i (b : Int32) => K b i) 4 (fun i x => x = Int32.ofNat (ssum sh i)) (fun rec i x hi hx ih => ?_) (fun rec x hx => ?_) 4 0 1000 0 (by omega) (by omega) rfl)
  · have e : (Int32.ofNat 4 ≤ Int32.ofNat i) = (4 ≤ i) := n32_le (by omega) (by omega)
    refine wq_ite (fun h => absurd (Eq.mp e h) (by omega)) (fun _ => wq_chk (n32_inb (by omega) hi) (wq_let (wq_let ?_)))
    rw [n32_succ, n32_c (by omega), hs i hi]
    refine wq_let (ih _ ?_)
    rw [hx, n32_addn]
    rfl
  · exact wq_ite (fun _ => ⟨rfl, hx⟩) (fun h => absurd (Int32.le_refl _) h)
/-- the rest of a division -/
theorem n32_mod {x c : Nat} (hx : x < 2147483648) (hc0 : 0 < c) (hc : c < 2147483648) : Int32.ofNat x - Int32.ofNat x / Int32.ofNat c * Int32.ofNat c = Int32.ofNat (x % c) := by
  have hd : Int32.ofNat x / Int32.ofNat c = Int32.ofNat (x / c) := by
    refine Int32.toInt_inj.mp ?_
    have hdl : x / c ≤ x := Nat.div_le_self x c
    rw [Int32.toInt_div, Int32.toInt_ofNat_of_lt (show x < 2 ^ 31 by omega), Int32.toInt_ofNat_of_lt (show c < 2 ^ 31 by omega), ← Int.ofNat_tdiv]
    generalize x / c = q at hdl ⊢
    rw [Int32.toInt_ofNat_of_lt (by omega), Int.bmod_eq_of_le (by omega) (by omega)]
  rw [hd, ← Int32.ofNat_mul]
  have h1 : c * (x / c) + x % c = x := Nat.div_add_mod x c
  have h2 : Int32.ofNat x = Int32.ofNat (x % c) + Int32.ofNat (x / c * c) := by
    rw [n32_addn]
    congr 1
    rw [Nat.mul_comm (x / c) c]
    omega
  rw [h2, Int32.add_sub_cancel]
theorem n32_subn {a b : Nat} (h : b ≤ a) : Int32.ofNat a - Int32.ofNat b = Int32.ofNat (a - b) := by
  have e : Int32.ofNat a = Int32.ofNat (a - b) + Int32.ofNat b := by
    rw [n32_addn, Nat.sub_add_cancel h]
  rw [e, Int32.add_sub_cancel]
/-- the drawn number -/
def drw (p s T : Nat) : Nat := (7919 * p + 104729 * s + 13) % 1000003 % T
theorem drw_eq {p s T : Nat} (hp : p < 20) (hs : s ≤ 1000) (hT : 0 < T) (hT4 : T ≤ 400) :
    ((((((7919 : Int32) * Int32.ofNat p) + ((104729 : Int32) * Int32.ofNat s)) + (13 : Int32)) - ((((7919 : Int32) * Int32.ofNat p) + ((104729 : Int32) * Int32.ofNat s)) + (13 : Int32)) / (1000003 : Int32) * (1000003 : Int32)) - (((((7919 : Int32) * Int32.ofNat p) + ((104729 : Int32) * Int32.ofNat s)) + (13 : Int32)) - ((((7919 : Int32) * Int32.ofNat p) + ((104729 : Int32) * Int32.ofNat s)) + (13 : Int32)) / (1000003 : Int32) * (1000003 : Int32)) / Int32.ofNat T * Int32.ofNat T) = Int32.ofNat (drw p s T) := by
  have e : (((7919 : Int32) * Int32.ofNat p) + ((104729 : Int32) * Int32.ofNat s)) + (13 : Int32) = Int32.ofNat (7919 * p + 104729 * s + 13) := by
    rw [Int32.ofNat_add, Int32.ofNat_add, Int32.ofNat_mul, Int32.ofNat_mul]
    rfl
  rw [e, show (1000003 : Int32) = Int32.ofNat 1000003 from rfl, n32_mod (by omega) (by omega) (by omega)]
  have := Nat.mod_lt (7919 * p + 104729 * s + 13) (show 0 < 1000003 by omega)
  rw [n32_mod (by omega) hT (by omega)]
  rfl
/-- the arm that a drawn number means -/
def srch (sh : Nat → Nat) (d : Nat) : Nat → Nat → Nat
  | 0, v => v
  | k + 1, v => if d < ssum sh (v + 1) then v else srch sh d k (v + 1)
theorem srch_le {sh : Nat → Nat} {d : Nat} : ∀ k v, srch sh d k v ≤ v + k
  | 0, v => Nat.le_refl _
  | k + 1, v => by
    show (if d < ssum sh (v + 1) then v else srch sh d k (v + 1)) ≤ _
    by_cases h : d < ssum sh (v + 1)
    · rw [if_pos h]
      omega
    · rw [if_neg h]
      have := srch_le (sh := sh) (d := d) k (v + 1)
      omega
theorem f_draw {S : jS} {b p s : Nat} {sh : Nat → Nat} (hp : p < 20) (hs : s ≤ 1000) (hsh : ∀ v, v < 4 → S (b + 1) v = Int32.ofNat (sh v) ∧ sh v ≤ 100) (hsa : S b 1 = Int32.ofNat s) :
    f_X9_drawArm S b (Int32.ofNat p) = some (0, Int32.ofNat (if ssum sh 4 = 0 then 0 else srch sh (drw p s (ssum sh 4)) 3 0), ()) := by
  have hT := ssum_le (fun v hv => (hsh v hv).2) 4 (by omega)
  suffices hw : wq (f_X9_drawArm S b (Int32.ofNat p)) (fun t v _ => t = 0 ∧ v = Int32.ofNat (if ssum sh 4 = 0 then 0 else srch sh (drw p s (ssum sh 4)) 3 0)) by
    obtain ⟨t, v, S1, e, rfl, rfl⟩ := wq_ex hw
    exact e
  unfold f_X9_drawArm
  rw [f_sum (fun v hv => (hsh v hv).1), jbin0_s]
  have e0 : ((0 : Int32) < Int32.ofNat (ssum sh 4)) = (0 < ssum sh 4) := n32_lt' (n := 0) (i := ssum sh 4) (by omega) (by omega)
  refine wq_ite (fun h0 => ?_) (fun h0 => ?_)
  · have h0 := Eq.mp e0 h0
    refine wq_chk ?_ (wq_let ?_)
    · have : Int32.ofNat (ssum sh 4) ≠ 0 := fun h => by
        have := n32_inj (b := 0) (by omega) (by omega) h
        omega
      simp [this]
    rw [hsa, drw_eq hp hs h0 hT, if_neg (show ¬ ssum sh 4 = 0 by omega)]
    have hd : drw p s (ssum sh 4) < ssum sh 4 := Nat.mod_lt _ h0
    refine wq_chk (by decide) (wq_let ?_)
    generalize drw p s (ssum sh 4) = d at hd
    refine wq_fall (fun (K : Int32 → Int32 → Option (jR Unit)) (b : Int32 × Int32) => K b.1 b.2) (fun k x => ∃ v, v + k = 3 ∧ x.1 = Int32.ofNat v ∧ x.2 = Int32.ofNat (ssum sh (v + 1)) ∧ srch sh d 3 0 = srch sh d k v) (fun rec k x hx ih => ?_) 3 1000 (0, S (b + 1) (0 : Int32).toNatClampNeg) (by omega) ⟨0, rfl, rfl, ?_, rfl⟩
    · obtain ⟨v, hv, e1, e2, e3⟩ := hx
      have hsv := ssum_le (fun v hv => (hsh v hv).2) (v + 1) (by omega)
      obtain ⟨x1, x2⟩ := x
      dsimp only at e1 e2 ⊢
      subst e1
      subst e2
      have ed : (Int32.ofNat d < Int32.ofNat (ssum sh (v + 1))) = (d < ssum sh (v + 1)) := n32_lt' (by omega) (by omega)
      have e3' : ((3 : Int32) ≤ Int32.ofNat v) = (3 ≤ v) := n32_le (n := 3) (by omega) (by omega)
      refine wq_join fun k7 hk7 => ?_
      have fin : srch sh d k v = v → wq (k7 ()) (fun t v _ => t = 0 ∧ v = Int32.ofNat (srch sh d 3 0)) := fun hh => by
        rw [hk7, e3, hh]
        exact ⟨rfl, rfl⟩
      refine wq_ite (fun hlt => fin ?_) (fun hlt => wq_ite (fun hle => fin ?_) (fun hle => wq_let ?_))
      · have hlt := Eq.mp ed hlt
        cases k with
        | zero => rfl
        | succ k => exact if_pos hlt
      · have hle := Eq.mp e3' hle
        have : k = 0 := by omega
        subst this
        rfl
      · have hlt : ¬ d < ssum sh (v + 1) := fun h => hlt (Eq.mpr ed h)
        have hle : ¬ 3 ≤ v := fun h => hle (Eq.mpr e3' h)
        obtain ⟨k1, rfl⟩ : ∃ k1, k = k1 + 1 := ⟨k - 1, by omega⟩
        rw [n32_succ]
        refine wq_chk (n32_inb (by omega) (by omega)) (wq_let ?_)
        refine ih k1 (Int32.ofNat (v + 1), _) rfl ⟨v + 1, by omega, rfl, ?_, ?_⟩
        · dsimp only
          rw [n32_c (by omega), (hsh (v + 1) (by omega)).1, n32_addn]
          rfl
        · rw [e3]
          exact if_neg hlt
    · dsimp only
      rw [show (0 : Int32).toNatClampNeg = 0 from rfl, (hsh 0 (by omega)).1]
      congr 1
      show sh 0 = 0 + sh 0
      omega
  · have h0 : ¬ 0 < ssum sh 4 := fun h => h0 (Eq.mpr e0 h)
    rw [if_pos (by omega)]
    exact ⟨rfl, rfl⟩
/-- the arm of a person in a trial, in the model -/
theorem m_armNow {S : jS} {t p s k st : Nat} {sh : Nat → Nat} (ht : t < 6) (hp : p < 20) (hs : s ≤ 1000) (hsh : ∀ v, v < 4 → S 378 (4 * t + v) = Int32.ofNat (sh v) ∧ sh v ≤ 100) (hsa : S 379 t = Int32.ofNat s) (hk : k ≤ 4) (hk9 : S 381 (20 * t + p) = Int32.ofNat k) (hst : st ≤ 4) (hst9 : S 380 t = Int32.ofNat st) :
    f_X11_armNow S (Int32.ofNat t) (Int32.ofNat p) = some (0, (if st ≠ 0 then Int32.ofNat (st - 1) else if k ≠ 0 then Int32.ofNat (k - 1) else Int32.ofNat (if ssum sh 4 = 0 then 0 else srch sh (drw p s (ssum sh 4)) 3 0)), ()) := by
  have hT := ssum_le (fun v hv => (hsh v hv).2) 4 (by omega)
  have c6 : inb (Int32.ofNat t) 6 = true := n32_inb (by omega) ht
  suffices hw : wq (f_X11_armNow S (Int32.ofNat t) (Int32.ofNat p)) (fun t v _ => t = 0 ∧ v = (if st ≠ 0 then Int32.ofNat (st - 1) else if k ≠ 0 then Int32.ofNat (k - 1) else Int32.ofNat (if ssum sh 4 = 0 then 0 else srch sh (drw p s (ssum sh 4)) 3 0))) by
    obtain ⟨t, v, S1, e, rfl, rfl⟩ := wq_ex hw
    exact e
  unfold f_X11_armNow
  rw [n32_20, n32_c (show 20 * t + p ≤ 1000 by omega), n32_c (show t ≤ 1000 by omega), hk9, hst9]
  have est : ((0 : Int32) < Int32.ofNat st) = (0 < st) := n32_lt' (n := 0) (i := st) (by omega) (by omega)
  have est2 : (Int32.ofNat st ≤ (0 : Int32)) = (st ≤ 0) := n32_le (n := st) (i := 0) (by omega) (by omega)
  have ek : (Int32.ofNat k ≤ (0 : Int32)) = (k ≤ 0) := n32_le (n := k) (i := 0) (by omega) (by omega)
  refine wq_chk (n32_inb (by omega) (by omega)) (wq_let (wq_chk c6 (wq_join fun k2 hk2 => wq_ite (fun h1 => ?_) (fun h1 => wq_ite (fun h2 => ?_) (fun h2 => ?_)))))
  · have h1 := Eq.mp est h1
    rw [hk2]
    refine wq_chk c6 (wq_join fun k18 hk18 => wq_ite (fun h9 => absurd (Eq.mp est2 h9) (by omega)) (fun _ => wq_chk c6 ?_))
    rw [hk18, n32_pred h1, if_pos (by omega)]
    exact ⟨rfl, rfl⟩
  · have h1 : ¬ 0 < st := fun h => h1 (Eq.mpr est h)
    have h2 := Eq.mp ek h2
    rw [if_neg (by omega), if_neg (by omega)]
    refine wq_for (fun (K : Int32 → Int32 → Option (jR Unit)) i (b : Int32) => K b i) 4 (fun i x => x = Int32.ofNat (ssum sh i)) (fun rec i x hi hx ih => ?_) (fun rec x hx => ?_) 4 0 1000 0 (by omega) (by omega) rfl
    · have e : ((4 : Int32) ≤ Int32.ofNat i) = (4 ≤ i) := n32_le (n := 4) (by omega) (by omega)
      refine wq_ite (fun h => absurd (Eq.mp e h) (by omega)) (fun _ => ?_)
      rw [n32_4]
      refine wq_chk (n32_inb (by omega) (by omega)) (wq_let ?_)
      rw [n32_succ, n32_c (show 4 * t + i ≤ 1000 by omega), (hsh i hi).1]
      refine wq_let (ih _ ?_)
      rw [hx, n32_addn]
      rfl
    · subst hx
      have e0 : (Int32.ofNat (ssum sh 4) = (0 : Int32)) = (ssum sh 4 = 0) := n32_eq (b := 0) (by omega) (by omega)
      refine wq_ite (fun _ => ?_) (fun h => absurd (by decide) h)
      refine wq_ite (fun h0 => ?_) (fun h0 => ?_)
      · have h0 := Eq.mp e0 h0
        rw [if_pos h0]
        exact ⟨rfl, rfl⟩
      · have h0' : ¬ ssum sh 4 = 0 := fun h => h0 (Eq.mpr e0 h)
        refine wq_chk c6 (wq_chk (by simp [h0]) (wq_let ?_))
        rw [hsa, drw_eq hp hs (by omega) hT, if_neg h0']
        have hd : drw p s (ssum sh 4) < ssum sh 4 := Nat.mod_lt _ (by omega)
        generalize drw p s (ssum sh 4) = d at hd
        refine wq_fall (fun (K : Int32 → Int32 → Option (jR Unit)) (b : Int32 × Int32) => K b.1 b.2) (fun k x => ∃ v, v + k = 3 ∧ x.2 = Int32.ofNat v ∧ ssum sh v ≤ d ∧ x.1 = Int32.ofNat (d - ssum sh v) ∧ srch sh d 3 0 = srch sh d k v) (fun rec k x hx ih => ?_) 3 1000 (Int32.ofNat d, 0) (by omega) ⟨0, rfl, rfl, Nat.zero_le _, rfl, rfl⟩
        obtain ⟨v, hv, e1, hle, e2, e3⟩ := hx
        obtain ⟨x1, x2⟩ := x
        dsimp only at e1 e2 ⊢
        subst e1
        subst e2
        have hsv : ssum sh (v + 1) = ssum sh v + sh v := rfl
        have h100 := (hsh v (by omega)).2
        rw [n32_4, n32_c (show 4 * t + v ≤ 1000 by omega), (hsh v (by omega)).1]
        have ed : (Int32.ofNat (d - ssum sh v) < Int32.ofNat (sh v)) = (d - ssum sh v < sh v) := n32_lt' (by omega) (by omega)
        refine wq_chk (n32_inb (by omega) (by omega)) (wq_ite (fun hlt => ?_) (fun hlt => ?_))
        · have hlt := Eq.mp ed hlt
          refine ⟨rfl, ?_⟩
          rw [e3]
          cases k with
          | zero => rfl
          | succ k =>
            congr 1
            exact (if_pos (by omega)).symm
        · have hlt : ¬ d - ssum sh v < sh v := fun h => hlt (Eq.mpr ed h)
          have hk0 : k ≠ 0 := fun h => by
            have : v = 3 := by omega
            subst this
            have : ssum sh (3 + 1) = ssum sh 4 := rfl
            omega
          obtain ⟨k1, rfl⟩ : ∃ k1, k = k1 + 1 := ⟨k - 1, by omega⟩
          refine wq_chk (n32_inb (by omega) (by omega)) (wq_let (wq_let ?_))
          rw [n32_succ, n32_subn (by omega)]
          refine ih k1 (_, _) rfl ⟨v + 1, by omega, rfl, by omega, ?_, ?_⟩
          · dsimp only
            exact congrArg Int32.ofNat (show d - ssum sh v - sh v = d - ssum sh (v + 1) by omega)
          · rw [e3]
            exact if_neg (by omega)
  · have h1 : ¬ 0 < st := fun h => h1 (Eq.mpr est h)
    have h2 : ¬ k ≤ 0 := fun h => h2 (Eq.mpr ek h)
    rw [hk2, if_neg (by omega), if_pos (by omega)]
    refine wq_chk c6 (wq_join fun k18 hk18 => wq_ite (fun _ => ?_) (fun h9 => absurd (Eq.mpr est2 (by omega)) h9))
    rw [hk18, n32_pred (by omega)]
    exact ⟨rfl, rfl⟩
end ARM
