section CLO
/-- one pass: what is reached over each in turn -/
def cpass (T : Nat → Int32) (w : Int32) : Nat → Int32
  | 0 => w
  | m + 1 => cpass T w m ||| (if bt (cpass T w m) m = true then T m else 0)
def cclo (T : Nat → Int32) (n : Nat) (w : Int32) : Nat → Int32
  | 0 => w
  | r + 1 => cpass T (cclo T n w r) n
theorem f_wouldLoop {S : jS} {b0 n p : Nat} {w : Int32} (hn : n ≤ 20) : f_X4_wouldLoop S b0 n (Int32.ofNat p) w = some (0, hb (cclo (S (b0 + 1)) n w n) (Int32.ofNat p), ()) := by
  suffices hw : wq (f_X4_wouldLoop S b0 n (Int32.ofNat p) w) (fun t v _ => t = 0 ∧ v = hb (cclo (S (b0 + 1)) n w n) (Int32.ofNat p)) by
    obtain ⟨t, v, S1, e, rfl, rfl⟩ := wq_ex hw
    exact e
  unfold f_X4_wouldLoop
  refine wq_for (fun (K : Int32 → Int32 → Option (jR Unit)) i (b : Int32) => K b i) n (fun i b => b = cclo (S (b0 + 1)) n w i) (fun rec i b hi hbb ih => ?_) (fun rec b hb2 => ?_) n 0 1000 w (by omega) (by omega) rfl
  · have e1 : (Int32.ofNat n ≤ Int32.ofNat i) = (n ≤ i) := n32_le (by omega) (by omega)
    refine wq_ite (fun h => absurd (Eq.mp e1 h) (by omega)) (fun _ => ?_)
    refine wq_for (fun (K : Int32 → Int32 → Option (jR Unit)) i (b : Int32) => K b i) n (fun m x => x = cpass (S (b0 + 1)) b m) (fun rec8 m x hm hx ih8 => ?_) (fun rec8 x hx => ?_) n 0 1000 b (by omega) (by omega) rfl
    · have e2 : (Int32.ofNat n ≤ Int32.ofNat m) = (n ≤ m) := n32_le (by omega) (by omega)
      refine wq_ite (fun h => absurd (Eq.mp e2 h) (by omega)) (fun _ => ?_)
      rw [f_hasBit, jbin0_s]
      refine wq_join fun k13 hk13 => ?_
      have fin : ∀ y, y = (if bt x m = true then S (b0 + 1) m else 0) → wq (k13 y) (fun t v _ => t = 0 ∧ v = hb (cclo (S (b0 + 1)) n w n) (Int32.ofNat p)) := fun y hy => by
        rw [hk13]
        dsimp only
        rw [n32_succ]
        refine wq_let (wq_let (ih8 _ ?_))
        rw [hy, hx]
        rfl
      rw [hb_bt (show m < 32 by omega)]
      by_cases hbm : bt x m = true
      · rw [if_pos hbm, if_neg (by decide)]
        refine wq_chk (n32_inb (by omega) hm) (fin _ ?_)
        rw [if_pos hbm, n32_cl (by omega)]
      · rw [if_neg hbm, if_pos rfl]
        exact fin _ (by rw [if_neg hbm])
    · refine wq_ite (fun _ => ?_) (fun h => absurd (Int32.le_refl _) h)
      rw [n32_succ]
      refine wq_let (ih _ ?_)
      rw [hx, hbb]
      rfl
  · refine wq_ite (fun _ => ?_) (fun h => absurd (Int32.le_refl _) h)
    rw [f_hasBit, jbin0_s]
    exact wq_chk hb_isb ⟨rfl, by rw [hb2]⟩
theorem m_allNeeds {S : jS} {p : Nat} (hp : p < 8) : f_X11_allNeeds S (Int32.ofNat p) = some (0, cclo (S 375) 8 (S 375 p) 8, ()) := by
  suffices hw : wq (f_X11_allNeeds S (Int32.ofNat p)) (fun t v _ => t = 0 ∧ v = cclo (S 375) 8 (S 375 p) 8) by
    obtain ⟨t, v, S1, e, rfl, rfl⟩ := wq_ex hw
    exact e
  unfold f_X11_allNeeds
  refine wq_chk (n32_inb (by omega) hp) (wq_let ?_)
  rw [n32_cl (by omega)]
  refine wq_for (fun (K : Int32 → Int32 → Option (jR Unit)) i (b : Int32) => K b i) 8 (fun i b => b = cclo (S 375) 8 (S 375 p) i) (fun rec i b hi hb ih => ?_) (fun rec b hb2 => ?_) 8 0 1000 _ (by omega) (by omega) rfl
  · have e1 : ((8 : Int32) ≤ Int32.ofNat i) = (8 ≤ i) := n32_le (n := 8) (by omega) (by omega)
    refine wq_ite (fun h => absurd (Eq.mp e1 h) (by omega)) (fun _ => ?_)
    refine wq_for (fun (K : Int32 → Int32 → Option (jR Unit)) i (b : Int32) => K b i) 8 (fun m x => x = cpass (S 375) b m) (fun rec8 m x hm hx ih8 => ?_) (fun rec8 x hx => ?_) 8 0 1000 b (by omega) (by omega) rfl
    · have e2 : ((8 : Int32) ≤ Int32.ofNat m) = (8 ≤ m) := n32_le (n := 8) (by omega) (by omega)
      refine wq_ite (fun h => absurd (Eq.mp e2 h) (by omega)) (fun _ => ?_)
      refine wq_join fun k9 hk9 => ?_
      have fin : ∀ y, y = (if bt x m = true then S 375 m else 0) → wq (k9 y) (fun t v _ => t = 0 ∧ v = cclo (S 375) 8 (S 375 p) 8) := fun y hy => by
        rw [hk9]
        dsimp only
        rw [n32_succ]
        refine wq_let (wq_let (ih8 _ ?_))
        rw [hy, hx]
        rfl
      refine wq_ite (fun hbm => ?_) (fun hbm => ?_)
      · have hbm := Eq.mp (m_bit (show m < 32 by omega)) hbm
        refine wq_chk (n32_inb (by omega) hm) (fin _ ?_)
        rw [if_pos hbm, n32_cl (by omega)]
      · rw [m_bit (show m < 32 by omega)] at hbm
        exact fin _ (by rw [if_neg hbm])
    · refine wq_ite (fun _ => ?_) (fun h => absurd (by decide) h)
      rw [n32_succ]
      refine wq_let (ih _ ?_)
      rw [hx, hb]
      rfl
  · refine wq_ite (fun _ => ?_) (fun h => absurd (by decide) h)
    exact ⟨rfl, hb2⟩
/-- what a pass reaches -/
theorem cpass_up {T : Nat → Int32} {w : Int32} {j : Nat} (h : bt w j = true) : ∀ m, bt (cpass T w m) j = true
  | 0 => h
  | m + 1 => by
    show bt (cpass T w m ||| _) j = true
    rw [bt_or, cpass_up h m]
    rfl
theorem cpass_in {T : Nat → Int32} {w : Int32} {X : Nat → Prop} (n : Nat) (hX : ∀ i, i < n → X i → ∀ j, bt (T i) j = true → X j) (h : ∀ j, bt w j = true → X j) : ∀ m, m ≤ n → ∀ j, bt (cpass T w m) j = true → X j
  | 0, _, j, hj => h j hj
  | m + 1, hm, j, hj => by
    have ih := cpass_in n hX h m (by omega)
    have hj : bt (cpass T w m ||| (if bt (cpass T w m) m = true then T m else 0)) j = true := hj
    rw [bt_or, Bool.or_eq_true] at hj
    rcases hj with hj | hj
    · exact ih j hj
    · by_cases hb : bt (cpass T w m) m = true
      · rw [if_pos hb] at hj
        exact hX m (by omega) (ih m hb) j hj
      · rw [if_neg hb, bt_0] at hj
        exact absurd hj (by decide)
theorem cpass_T {T : Nat → Int32} {w : Int32} {i j : Nat} (h : bt w i = true) (hj : bt (T i) j = true) : ∀ m, i < m → bt (cpass T w m) j = true
  | m + 1, hm => by
    show bt (cpass T w m ||| (if bt (cpass T w m) m = true then T m else 0)) j = true
    rw [bt_or]
    by_cases him : i = m
    · subst him
      rw [if_pos (cpass_up h i), hj, Bool.or_true]
    · rw [cpass_T h hj m (by omega), Bool.true_or]
theorem cclo_up {T : Nat → Int32} {n : Nat} {w : Int32} {j : Nat} (h : bt w j = true) : ∀ r, bt (cclo T n w r) j = true
  | 0 => h
  | r + 1 => cpass_up (cclo_up h r) n
theorem cclo_in {T : Nat → Int32} {w : Int32} {X : Nat → Prop} {n : Nat} (hX : ∀ i, i < n → X i → ∀ j, bt (T i) j = true → X j) (h : ∀ j, bt w j = true → X j) : ∀ r j, bt (cclo T n w r) j = true → X j
  | 0, j, hj => h j hj
  | r + 1, j, hj => cpass_in n hX (cclo_in hX h r) n (Nat.le_refl _) j hj
/-- what stands high in the order is reached early -/
theorem cpass_old {T : Nat → Int32} {pos : Nat → Nat} {n r : Nat} {w : Int32} (hpos : ∀ i, i < n → pos i < n ∧ ∀ j, j < n → bt (T i) j = true → pos j < pos i)
    (hI : ∀ i, i < n → bt w i = true → n ≤ pos i + r → ∀ j, bt (T i) j = true → bt w j = true) : ∀ m, m ≤ n → ∀ j, j < n → bt (cpass T w m) j = true → n ≤ pos j + (r + 1) → bt w j = true
  | 0, _, j, _, hj, _ => hj
  | m + 1, hm, j, hjn, hj, hp => by
    have ih := cpass_old hpos hI m (by omega)
    have hj : bt (cpass T w m ||| (if bt (cpass T w m) m = true then T m else 0)) j = true := hj
    rw [bt_or, Bool.or_eq_true] at hj
    rcases hj with hj | hj
    · exact ih j hjn hj hp
    · by_cases hb : bt (cpass T w m) m = true
      · rw [if_pos hb] at hj
        have := (hpos m (by omega)).2 j hjn hj
        exact hI m (by omega) (ih m (by omega) hb (by omega)) (by omega) j hj
      · rw [if_neg hb, bt_0] at hj
        exact absurd hj (by decide)
theorem cclo_I {T : Nat → Int32} {pos : Nat → Nat} {n : Nat} {w : Int32} (hpos : ∀ i, i < n → pos i < n ∧ ∀ j, j < n → bt (T i) j = true → pos j < pos i) : ∀ r i, i < n → bt (cclo T n w r) i = true → n ≤ pos i + r → ∀ j, bt (T i) j = true → bt (cclo T n w r) j = true
  | 0, i, hi, _, hp, _, _ => absurd (hpos i hi).1 (by omega)
  | r + 1, i, hi, hb, hp, j, hj => by
    have ih := cclo_I (w := w) hpos r
    exact cpass_T (cpass_old hpos ih n (Nat.le_refl _) i hi hb hp) hj n hi
/-- all that is reached is closed -/
theorem cclo_closed {T : Nat → Int32} {pos : Nat → Nat} {n : Nat} {w : Int32} (hpos : ∀ i, i < n → pos i < n ∧ ∀ j, j < n → bt (T i) j = true → pos j < pos i) {i j : Nat} (hi : i < n) (hb : bt (cclo T n w n) i = true) (hj : bt (T i) j = true) : bt (cclo T n w n) j = true := cclo_I hpos n i hi hb (by omega) j hj
end CLO
