section CIR
/-- the audiences that a text refers to, as bits; up to sign i -/
def RF (w : Int32) (c : Nat → Int32) (n : Nat) : Prop := bits 6 w ∧ ∀ d, d < 6 → (bt w d = true ↔ ∃ i, i < n ∧ c i = 64 ∧ dgt (c (i + 1)) = d)
theorem RF_ext {w w1 : Int32} {c : Nat → Int32} {n : Nat} (h : RF w c n) (h1 : RF w1 c n) : w = w1 := bits_ext h.1 h1.1 fun j hj => by
  have := (h.2 j hj).trans (h1.2 j hj).symm
  cases e : bt w j <;> cases e1 : bt w1 j <;> simp [e, e1] at this ⊢
theorem RF_cong {w : Int32} {c c1 : Nat → Int32} {n : Nat} (h : RF w c n) (hv : n = 0 ∨ Valid c n) (hc : ∀ i, i < n → c i = c1 i) : RF w c1 n := by
  refine ⟨h.1, fun d hd => (h.2 d hd).trans ⟨fun ⟨i, hi, h1, h2⟩ => ?_, fun ⟨i, hi, h1, h2⟩ => ?_⟩⟩
  · have hm := (v_ref (hv.resolve_left (by omega)) hi h1).1
    exact ⟨i, hi, (hc i hi) ▸ h1, (hc _ hm) ▸ h2⟩
  · rw [← hc i hi] at h1
    have hm := (v_ref (hv.resolve_left (by omega)) hi h1).1
    exact ⟨i, hi, h1, (hc _ hm).symm ▸ h2⟩
theorem RF_0 {c : Nat → Int32} : RF 0 c 0 := ⟨bits_0, fun d _ => ⟨fun h => by rw [bt_0] at h; exact absurd h (by decide), fun ⟨i, hi, _⟩ => absurd hi (Nat.not_lt_zero _)⟩⟩
theorem RF_skip {w : Int32} {c : Nat → Int32} {i : Nat} (h : RF w c i) (h64 : c i ≠ 64) : RF w c (i + 1) := ⟨h.1, fun d hd => (h.2 d hd).trans ⟨fun ⟨k, hk, h1, h2⟩ => ⟨k, by omega, h1, h2⟩, fun ⟨k, hk, h1, h2⟩ => ⟨k, by
  have : k ≠ i := fun e => h64 (e ▸ h1)
  omega, h1, h2⟩⟩⟩
theorem RF_add {w w1 : Int32} {c : Nat → Int32} {i d : Nat} (h : RF w c i) (h64 : c i = 64) (hd : dgt (c (i + 1)) = d) (hd6 : d < 6) (hw : ∀ j, j < 32 → bt w1 j = (bt w j || decide (j = d))) : RF w1 c (i + 1) := by
  refine ⟨fun j h1 h2 => ?_, fun j hj => ?_⟩
  · rw [hw j h2, h.1 j h1 h2, decide_eq_false (by omega)]
    rfl
  · rw [hw j (by omega), Bool.or_eq_true, decide_eq_true_eq]
    refine ⟨fun h9 => ?_, fun ⟨k, hk, h1, h2⟩ => ?_⟩
    · rcases h9 with h9 | h9
      · obtain ⟨k, hk, h1, h2⟩ := (h.2 j hj).mp h9
        exact ⟨k, by omega, h1, h2⟩
      · exact ⟨i, by omega, h64, by rw [hd, h9]⟩
    · by_cases hki : k = i
      · rw [hki, hd] at h2
        exact Or.inr h2.symm
      · exact Or.inl ((h.2 j hj).mpr ⟨k, by omega, h1, h2⟩)
theorem f_refs {S : jS} {b n : Nat} {c : Nat → Int32} (ht : TxS S b n c) (hv : Valid c n) : ∃ w, f_X8_audiencesReferredTo S b = some (0, w, ()) ∧ RF w c n := by
  have hn := ht.1.1
  suffices hw : wq (f_X8_audiencesReferredTo S b) (fun t v _ => t = 0 ∧ RF v c n) by
    obtain ⟨t, v, S1, e, rfl, h⟩ := wq_ex hw
    exact ⟨v, e, h⟩
  unfold f_X8_audiencesReferredTo
  refine wq_for (fun (K : Int32 → Int32 → Option (jR Unit)) i (b : Int32) => K b i) n (fun i b => RF b c i) (fun rec i x hi hx ih => ?_) (fun rec x hx => ?_) n 0 1000 0 (by omega) (by omega) RF_0
  · have e1 : (Int32.ofNat n ≤ Int32.ofNat i) = (n ≤ i) := n32_le (by omega) (by omega)
    rw [ht.1.2]
    refine wq_ite (fun h => absurd (Eq.mp e1 h) (by omega)) (fun _ => ?_)
    rw [n32_succ, f_digitAt ht.1 (by omega), jbin0_s]
    refine wq_chk (n32_inb (by omega) (by omega)) (wq_join fun k5 hk5 => ?_)
    rw [n32_cl (show i ≤ 100000 by omega), ht.2 i hi]
    refine wq_ite (fun h64 => ?_) (fun h64 => ?_)
    · obtain ⟨h1, h2⟩ := v_ref hv hi h64
      obtain ⟨d, hd, e, e5⟩ := dg_of (m := 5) (by omega) h2
      have h2' : 48 ≤ S (b + 1) (i + 1) ∧ S (b + 1) (i + 1) ≤ 57 := by
        rw [ht.2 _ h1]
        exact ⟨h2.1, Int32.le_trans h2.2 (by decide)⟩
      rw [if_pos (show i + 1 < n ∧ (48 ≤ S (b + 1) (i + 1) ∧ S (b + 1) (i + 1) ≤ 57) from ⟨h1, h2'⟩), ht.2 _ h1, e, if_neg (n32_m1 (by omega)), f_withBit, jbin0_s, hk5]
      refine wq_let (ih _ (RF_add hx h64 e5 (by omega) fun j hj => ?_))
      rw [wb_bt (by omega) hj]
      by_cases hjd : j = d <;> simp [hjd]
    · rw [hk5]
      exact wq_let (ih _ (RF_skip hx h64))
  · rw [ht.1.2]
    refine wq_ite (fun _ => ?_) (fun h => absurd (Int32.le_refl _) h)
    exact ⟨rfl, hx⟩
def frR (S1 S : jS) : Prop := ∀ q j, q ≠ 366 → S1 q j = S q j
/-- whether the model finds a circle -/
theorem m_hasCircle {S : jS} {ns : Nat → Nat} {cs : Nat → Nat → Int32} (h : ∀ a, a < 6 → TxM S a (ns a) (cs a)) (hv : ∀ a, a < 6 → ns a = 0 ∨ Valid (cs a) (ns a)) :
    ∃ (v : Int32) (S1 : jS) (W T : Nat → Int32), f_X11_hasCircle S = some (0, v, S1) ∧ frR S1 S ∧ (∀ a, a < 6 → RF (T a) (cs a) (ns a)) ∧ (∀ a, a < 6 → ∀ j, bt (T a) j = true → bt (W a) j = true) ∧
      (∀ a, a < 6 → ∀ m, m < 6 → bt (W a) m = true → ∀ j, bt (W m) j = true → bt (W a) j = true) ∧
      (∀ rank : Nat → Nat, (∀ a, a < 6 → ∀ j, j < 6 → bt (T a) j = true → rank j < rank a) → ∀ a, a < 6 → ∀ j, j < 6 → bt (W a) j = true → rank j < rank a) ∧ (v = 0 ∨ v = 1) ∧ (v = 1 ↔ ∃ a, a < 6 ∧ bt (W a) a = true) := by
  suffices hw : wq (f_X11_hasCircle S) (fun t v S1 => t = 0 ∧ frR S1 S ∧ ∃ (W T : Nat → Int32), (∀ a, a < 6 → RF (T a) (cs a) (ns a)) ∧ (∀ a, a < 6 → ∀ j, bt (T a) j = true → bt (W a) j = true) ∧
      (∀ a, a < 6 → ∀ m, m < 6 → bt (W a) m = true → ∀ j, bt (W m) j = true → bt (W a) j = true) ∧
      (∀ rank : Nat → Nat, (∀ a, a < 6 → ∀ j, j < 6 → bt (T a) j = true → rank j < rank a) → ∀ a, a < 6 → ∀ j, j < 6 → bt (W a) j = true → rank j < rank a) ∧ (v = 0 ∨ v = 1) ∧ (v = 1 ↔ ∃ a, a < 6 ∧ bt (W a) a = true)) by
    obtain ⟨t, v, S1, e, rfl, h1, W, T, h2⟩ := wq_ex hw
    exact ⟨v, S1, W, T, e, h1, h2⟩
  have hTx : ∀ S5, frR S5 S → ∀ a, a < 6 → TxM S5 a (ns a) (cs a) := fun S5 h5 a ha => by
    obtain ⟨h1, h2, h3, h4⟩ := h a ha
    exact ⟨h1, h2, (h5 364 a (by omega)).trans h3, fun j hj => (h5 363 _ (by omega)).trans (h4 j hj)⟩
  unfold f_X11_hasCircle
  refine wq_for (fun (K : jS → Int32 → Option (jR jS)) i (b : jS) => K b i) 6 (fun a S2 => frR S2 S ∧ ∀ o, o < a → RF (S2 366 o) (cs o) (ns o)) (fun rec1 a S2 ha hP ih => ?_) (fun rec1 S2 hP => ?_) 6 0 1000 S (by omega) (by omega) ⟨fun _ _ _ => rfl, fun o ho => absurd ho (Nat.not_lt_zero _)⟩
  · have e1 : ((6 : Int32) ≤ Int32.ofNat a) = (6 ≤ a) := n32_le (n := 6) (by omega) (by omega)
    have ca : (Int32.ofNat a).toNatClampNeg = a := n32_cl (by omega)
    have c6 : inb (Int32.ofNat a) 6 = true := n32_inb (by omega) ha
    have hn := (h a ha).2.1
    refine wq_ite (fun h => absurd (Eq.mp e1 h) (by omega)) (fun _ => wq_chk c6 (wq_let ?_))
    rw [ca]
    refine wq_for (fun (K : jS → Int32 → Option (jR jS)) i (b : jS) => K b i) (ns a) (fun i S5 => frR S5 S ∧ (∀ o, o < a → RF (S5 366 o) (cs o) (ns o)) ∧ RF (S5 366 a) (cs a) i) (fun rec28 i S5 hi hP5 ih5 => ?_) (fun rec28 S5 hP5 => ?_) (ns a) 0 1000 (jset S2 366 a 0) (by omega) (by omega) ⟨fun q j hq => by rw [jset_ne (by omega)]; exact hP.1 q j hq, fun o ho => by rw [jset_ne (by omega)]; exact hP.2 o ho, by rw [jset_at]; exact RF_0⟩
    · obtain ⟨hf, ho, hx⟩ := hP5
      have hT5 := hTx S5 hf a ha
      have e2 : (Int32.ofNat (ns a) ≤ Int32.ofNat i) = (ns a ≤ i) := n32_le (by omega) (by omega)
      have hva : Valid (cs a) (ns a) := (hv a ha).resolve_left (by omega)
      refine wq_chk c6 (wq_ite (fun h9 => ?_) (fun _ => ?_))
      · rw [hT5.2.2.1, e2] at h9
        omega
      rw [m_signOf hT5 (by omega), jbin0_s, if_pos hi]
      have fin : ∀ w, RF w (cs a) (i + 1) → wq (rec28 (jset S5 366 a w) (Int32.ofNat (i + 1))) _ := fun w hw => ih5 _ ⟨fun q j hq => by rw [jset_ne (by omega)]; exact hf q j hq, fun o ho9 => by rw [jset_ne (by omega)]; exact ho o ho9, by rw [jset_at]; exact hw⟩
      refine wq_join fun k33 hk33 => wq_ite (fun h64 => ?_) (fun h64 => ?_)
      · obtain ⟨h1, h2⟩ := v_ref hva hi h64
        obtain ⟨d, hd, e, e5⟩ := dg_of (m := 5) (by omega) h2
        rw [hk33]
        refine wq_chk c6 (wq_join fun k35 hk35 => wq_ite (fun h9 => absurd h9 (by decide)) (fun _ => ?_))
        rw [n32_succ, m_signOf hT5 (by omega), jbin0_s, if_pos h1, e, hk35]
        refine wq_chk c6 (wq_let ?_)
        rw [n32_succ]
        refine wq_let (fin _ (RF_add hx h64 e5 (by omega) fun j hj => ?_))
        rw [bt_or, bt_shl (by omega) hj]
      · rw [hk33]
        refine wq_chk c6 (wq_join fun k35 hk35 => wq_ite (fun _ => ?_) (fun h9 => absurd rfl h9))
        rw [hk35]
        refine wq_chk c6 (wq_let ?_)
        rw [n32_succ, Int32.or_zero]
        exact wq_let (fin _ (RF_skip hx h64))
    · obtain ⟨hf, ho, hx⟩ := hP5
      have hT5 := hTx S5 hf a ha
      refine wq_chk c6 (wq_ite (fun _ => ?_) (fun h9 => absurd ?_ h9))
      · rw [n32_succ]
        refine wq_let (ih _ ⟨hf, fun o ho9 => ?_⟩)
        by_cases hoa : o = a
        · rw [hoa]
          exact hx
        · exact ho o (by omega)
      · rw [hT5.2.2.1]
        exact Int32.le_refl _
  · refine wq_ite (fun _ => ?_) (fun h => absurd (by decide) h)
    obtain ⟨hf0, hT⟩ := hP
    -- closing
    refine wq_for (fun (K : jS → Int32 → Option (jR jS)) i (b : jS) => K b i) 6 (fun k S5 => frR S5 S ∧ (∀ a, a < 6 → ∀ j, bt (S2 366 a) j = true → bt (S5 366 a) j = true) ∧ (∀ a, a < 6 → ∀ m, m < k → bt (S5 366 a) m = true → ∀ j, bt (S5 366 m) j = true → bt (S5 366 a) j = true) ∧ (∀ rank : Nat → Nat, (∀ a, a < 6 → ∀ j, j < 6 → bt (S2 366 a) j = true → rank j < rank a) → ∀ a, a < 6 → ∀ j, j < 6 → bt (S5 366 a) j = true → rank j < rank a)) (fun rec4 k S5 hk hP5 ih4 => ?_) (fun rec4 S5 hP5 => ?_) 6 0 1000 S2 (by omega) (by omega) ⟨hf0, fun _ _ _ h => h, fun _ _ _ h => absurd h (Nat.not_lt_zero _), fun _ h => h⟩
    · obtain ⟨hf, hsup, htr, hrk⟩ := hP5
      have e1 : ((6 : Int32) ≤ Int32.ofNat k) = (6 ≤ k) := n32_le (n := 6) (by omega) (by omega)
      refine wq_ite (fun h => absurd (Eq.mp e1 h) (by omega)) (fun _ => ?_)
      refine wq_for (fun (K : jS → Int32 → Option (jR jS)) i (b : jS) => K b i) 6 (fun a S6 => frR S6 S ∧ ∀ o, o < 6 → S6 366 o = if o < a ∧ bt (S5 366 o) k = true then S5 366 o ||| S5 366 k else S5 366 o) (fun rec15 a S6 ha hP6 ih15 => ?_) (fun rec15 S6 hP6 => ?_) 6 0 1000 S5 (by omega) (by omega) ⟨hf, fun o ho => by rw [if_neg (fun h => absurd h.1 (Nat.not_lt_zero _))]⟩
      · obtain ⟨hf6, hw6⟩ := hP6
        have e2 : ((6 : Int32) ≤ Int32.ofNat a) = (6 ≤ a) := n32_le (n := 6) (by omega) (by omega)
        have ca : (Int32.ofNat a).toNatClampNeg = a := n32_cl (by omega)
        have ck : (Int32.ofNat k).toNatClampNeg = k := n32_cl (by omega)
        have c6 : inb (Int32.ofNat a) 6 = true := n32_inb (by omega) ha
        refine wq_ite (fun h => absurd (Eq.mp e2 h) (by omega)) (fun _ => wq_chk c6 (wq_chk c6 ?_))
        rw [ca, ck]
        have ea : S6 366 a = S5 366 a := by rw [hw6 a ha, if_neg (fun h => Nat.lt_irrefl _ h.1)]
        have ek : ∀ j, bt (S6 366 k) j = bt (S5 366 k) j := fun j => by
          rw [hw6 k hk]
          by_cases h9 : k < a ∧ bt (S5 366 k) k = true
          · rw [if_pos h9, bt_or, Bool.or_self]
          · rw [if_neg h9]
        have fin : ∀ w, (∀ j, j < 32 → bt w j = if bt (S5 366 a) k = true then bt (S5 366 k) j else false) → wq (rec15 (jset S6 366 a (S6 366 a ||| w)) (Int32.ofNat (a + 1))) _ := fun w hw => ih15 _ ⟨fun q j hq => by rw [jset_ne (by omega)]; exact hf6 q j hq, fun o ho => by
          by_cases hoa : o = a
          · rw [hoa, jset_at, ea]
            by_cases hbk : bt (S5 366 a) k = true
            · rw [if_pos ⟨by omega, hbk⟩]
              refine bt_ext fun j hj => ?_
              rw [bt_or, bt_or, hw j hj, if_pos hbk]
            · rw [if_neg (fun h => hbk h.2)]
              refine bt_ext fun j hj => ?_
              rw [bt_or, hw j hj, if_neg hbk, Bool.or_false]
          · rw [jset_ne (by omega), hw6 o ho]
            by_cases h9 : o < a ∧ bt (S5 366 o) k = true
            · rw [if_pos h9, if_pos ⟨by omega, h9.2⟩]
            · rw [if_neg h9, if_neg (fun h => h9 ⟨by omega, h.2⟩)]⟩
        refine wq_join fun k19 hk19 => wq_ite (fun hbk => ?_) (fun hbk => ?_)
        · have hbk : bt (S6 366 a) k = true := Eq.mp (m_bit (show k < 32 by omega)) hbk
          rw [ea] at hbk
          refine wq_chk (n32_inb (by omega) hk) ?_
          rw [hk19]
          refine wq_chk c6 (wq_let ?_)
          rw [n32_succ]
          refine wq_let (fin _ fun j hj => ?_)
          rw [if_pos hbk, ek]
        · have hbk : ¬ bt (S6 366 a) k = true := fun h => hbk (Eq.mpr (m_bit (show k < 32 by omega)) h)
          rw [ea] at hbk
          rw [hk19]
          refine wq_chk c6 (wq_let ?_)
          rw [n32_succ]
          refine wq_let (fin _ fun j hj => ?_)
          rw [if_neg hbk, bt_0]
      · obtain ⟨hf6, hw6⟩ := hP6
        refine wq_ite (fun _ => ?_) (fun h => absurd (by decide) h)
        rw [n32_succ]
        -- what is new
        have new : ∀ a, a < 6 → ∀ j, (bt (S6 366 a) j = true ↔ bt (S5 366 a) j = true ∨ (bt (S5 366 a) k = true ∧ bt (S5 366 k) j = true)) := fun a ha j => by
          rw [hw6 a ha]
          by_cases hbk : bt (S5 366 a) k = true
          · rw [if_pos ⟨ha, hbk⟩, bt_or, Bool.or_eq_true]
            simp [hbk]
          · rw [if_neg (fun h => hbk h.2)]
            simp [hbk]
        refine wq_let (ih4 _ ⟨hf6, fun a ha j hj => (new a ha j).mpr (Or.inl (hsup a ha j hj)), fun a ha m hm h1 j h2 => ?_, fun rank hr a ha j hj h1 => ?_⟩)
        · have hm6 : m < 6 := by omega
          rw [new a ha] at h1 ⊢
          rw [new m hm6] at h2
          by_cases hmk : m = k
          · subst hmk
            have h1' : bt (S5 366 a) m = true := by rcases h1 with h1 | h1 <;> first | exact h1 | exact h1.1
            exact Or.inr ⟨h1', by rcases h2 with h2 | h2 <;> first | exact h2 | exact h2.2⟩
          · have hmk : m < k := by omega
            rcases h1 with h1 | ⟨h1, h1'⟩ <;> rcases h2 with h2 | ⟨h2, h2'⟩
            · exact Or.inl (htr a ha m hmk h1 j h2)
            · exact Or.inr ⟨htr a ha m hmk h1 k h2, h2'⟩
            · exact Or.inr ⟨h1, htr k hk m hmk h1' j h2⟩
            · exact Or.inr ⟨h1, h2'⟩
        · rcases (new a ha j).mp h1 with h1 | ⟨h1, h2⟩
          · exact hrk rank hr a ha j hj h1
          · exact Nat.lt_trans (hrk rank hr k hk j hj h2) (hrk rank hr a ha k hk h1)
    · obtain ⟨hf, hsup, htr, hrk⟩ := hP5
      refine wq_ite (fun _ => ?_) (fun h => absurd (by decide) h)
      refine wq_for (fun (K : Int32 → Int32 → Option (jR jS)) i (b : Int32) => K b i) 6 (fun i x => (x = 0 ∨ x = 1) ∧ (x = 1 ↔ ∃ a, a < i ∧ bt (S5 366 a) a = true)) (fun rec7 i x hi hx ih7 => ?_) (fun rec7 x hx => ?_) 6 0 1000 0 (by omega) (by omega) ⟨Or.inl rfl, fun h => absurd h (by decide), fun ⟨a, ha, _⟩ => absurd ha (Nat.not_lt_zero _)⟩
      · have e2 : ((6 : Int32) ≤ Int32.ofNat i) = (6 ≤ i) := n32_le (n := 6) (by omega) (by omega)
        have ci : (Int32.ofNat i).toNatClampNeg = i := n32_cl (by omega)
        refine wq_ite (fun h => absurd (Eq.mp e2 h) (by omega)) (fun _ => wq_join fun k10 hk10 => wq_join fun k11 hk11 => ?_)
        have fin : ∀ y : Int32, (y = 0 ∨ y = 1) → (y = 1 ↔ ∃ a, a < i + 1 ∧ bt (S5 366 a) a = true) → wq (k10 y) _ := fun y h1 h2 => by
          rw [hk10]
          dsimp only
          rw [n32_succ]
          exact wq_let (ih7 y ⟨h1, h2⟩)
        have f1 : (∃ a, a < i + 1 ∧ bt (S5 366 a) a = true) → wq (k11 ()) _ := fun h => by
          rw [hk11]
          exact fin 1 (Or.inr rfl) ⟨fun _ => h, fun _ => rfl⟩
        refine wq_ite (fun h0 => wq_chk (n32_inb (by omega) hi) (wq_ite (fun hb => f1 ?_) (fun hb => fin 0 (Or.inl rfl) ?_))) (fun h0 => f1 ?_)
        · rw [ci, m_bit (show i < 32 by omega)] at hb
          exact ⟨i, by omega, hb⟩
        · rw [ci, m_bit (show i < 32 by omega)] at hb
          refine ⟨fun h => absurd h (by decide), fun ⟨a, ha, h1⟩ => ?_⟩
          exfalso
          by_cases hai : a = i
          · rw [hai] at h1
            exact hb h1
          · have := hx.2.mpr ⟨a, by omega, h1⟩
            rw [h0] at this
            exact absurd this (by decide)
        · obtain ⟨a, ha, h1⟩ := hx.2.mp (hx.1.resolve_left h0)
          exact ⟨a, by omega, h1⟩
      · refine wq_ite (fun _ => ?_) (fun h => absurd (by decide) h)
        refine wq_chk (by rcases hx.1 with h | h <;> rw [h] <;> decide) ?_
        exact ⟨rfl, hf, S5 366, S2 366, hT, hsup, htr, hrk, hx⟩
end CIR
