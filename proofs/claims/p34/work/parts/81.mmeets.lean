section MME
/-- the model's reader of a rule, for one person -/
def RM (T : Nat → Bool) (c : Nat → Int32) (i : Nat) (S : jS) (x5 x6 : Int32) : Prop := x5 = Int32.ofNat (rd c i).2 ∧ x6 = b2i ((em T c i).2.2.2 (rd c i).2) ∧ (∀ j, j ≤ (rd c i).2 → S 369 j = b2i ((em T c i).2.1 j) ∧ S 370 j = b2i ((em T c i).2.2.1 j)) ∧ ∀ j, j < (rd c i).2 → S 371 j = b2i ((em T c i).2.2.2 j)
/-- all but the three rows of the reader -/
def frE (S1 S : jS) : Prop := ∀ q j, (q < 369 ∨ 371 < q) → S1 q j = S q j
theorem m_begins {x : Int32} : f_X11_beginsTest x = some (0, b2i (isT x), ()) := by
  unfold f_X11_beginsTest joinK isT
  dsimp only
  by_cases h1 : x = 42
  · simp [h1, chk, isb, b2i]
  by_cases h2 : x = 108
  · simp [h2, chk, isb, b2i]
  by_cases h3 : x = 97
  · simp [h3, chk, isb, b2i]
  by_cases h4 : x = 112
  · simp [h4, chk, isb, b2i]
  by_cases h5 : x = 116
  · simp [h5, chk, isb, b2i]
  by_cases h6 : x = 64
  · simp [h6, chk, isb, b2i]
  simp [h1, h2, h3, h4, h5, h6, chk, isb, b2i]
theorem m_meets_step {T : Nat → Bool} {c : Nat → Int32} {a n i p : Nat} {S : jS} {x5 x6 : Int32} {rec : jS → Int32 → Int32 → Int32 → Option (jR jS)} {Q : Nat → Int32 → jS → Prop} (hv : Valid c n) (h : TxM S a n c) (hi : i < n) (hp : p < 20) (hT : isT (c i) = true → f_X11_meetsTest S (Int32.ofNat a) (Int32.ofNat i) (Int32.ofNat p) = some (0, b2i (T i), ())) (hR : RM T c i S x5 x6)
    (ih : ∀ S1 y5 y6, RM T c (i + 1) S1 y5 y6 → frE S1 S → wq (rec S1 y5 y6 (Int32.ofNat (i + 1))) Q) :
    wq (jbin0 (f_X11_signOf S (Int32.ofNat a) (Int32.ofNat i)) (fun v15 _ => jbin0 (f_X11_beginsTest v15) (fun v16 _ => joinK (fun (S59 : jS) (x60 : Int32) (x61 : Int32) => letE (Int32.ofNat i + (1 : Int32)) fun x62 => rec S59 x60 x61 x62) (fun k17 => (if v16 = (0 : Int32) then (if v15 = (33 : Int32) then joinK (fun (x48 : Int32) => k17 S x5 x48) (fun k47 => (if x6 = (0 : Int32) then k47 (1 : Int32) else k47 (0 : Int32))) else (if v15 = (124 : Int32) then chk (inb x5 10) (joinK (fun (x41 : Int32) => chk (inb x5 10) (letE (jset S 369 x5.toNatClampNeg (vp_nar .boolean x41)) fun S42 => chk (inb x5 10) (letE (jset S42 370 x5.toNatClampNeg (vp_nar .boolean (1 : Int32))) fun S43 => k17 S43 x5 x6))) (fun k38 => joinK (fun (_ : Unit) => k38 (1 : Int32)) (fun k39 => (if (S 369 x5.toNatClampNeg) = (0 : Int32) then chk (inb x5 10) ((if (S 370 x5.toNatClampNeg) = (0 : Int32) then k38 (0 : Int32) else k39 ())) else k39 ())))) else (if v15 = (40 : Int32) then chk (inb x5 10) (letE (jset S 371 x5.toNatClampNeg (vp_nar .boolean x6)) fun S31 => letE (x5 + (1 : Int32)) fun x32 => chk (inb x32 10) (letE (jset S31 369 x32.toNatClampNeg (vp_nar .boolean (0 : Int32))) fun S33 => chk (inb x32 10) (letE (jset S33 370 x32.toNatClampNeg (vp_nar .boolean (1 : Int32))) fun S34 => k17 S34 x32 (0 : Int32)))) else (if v15 = (41 : Int32) then chk (inb x5 10) (joinK (fun (x21 : Int32) => letE (x5 + (-1 : Int32)) fun x22 => chk (inb x22 10) (joinK (fun (x26 : Int32) => chk (inb x22 10) (letE (jset S 370 x22.toNatClampNeg (vp_nar .boolean x26)) fun S27 => k17 S27 x22 x6)) (fun k23 => joinK (fun (_ : Unit) => k23 (0 : Int32)) (fun k24 => (if (S 370 x22.toNatClampNeg) = (0 : Int32) then k24 () else chk (inb x22 10) ((if x21 = (S 371 x22.toNatClampNeg) then k24 () else k23 (1 : Int32)))))))) (fun k18 => joinK (fun (_ : Unit) => k18 (1 : Int32)) (fun k19 => (if (S 369 x5.toNatClampNeg) = (0 : Int32) then chk (inb x5 10) ((if (S 370 x5.toNatClampNeg) = (0 : Int32) then k18 (0 : Int32) else k19 ())) else k19 ())))) else k17 S x5 x6)))) else chk (inb x5 10) (joinK (fun (x55 : Int32) => chk (inb x5 10) (letE (jset S 370 x5.toNatClampNeg (vp_nar .boolean x55)) fun S56 => k17 S56 x5 (0 : Int32))) (fun k49 => joinK (fun (_ : Unit) => k49 (0 : Int32)) (fun k50 => (if (S 370 x5.toNatClampNeg) = (0 : Int32) then k50 () else jbin0 (f_X11_meetsTest S (Int32.ofNat a) (Int32.ofNat i) (Int32.ofNat p)) (fun v51 _ => (if v51 = x6 then k50 () else k49 (1 : Int32)))))))))))) Q := by
  have hn := h.2.1
  have hle := (rd_le (c := c) i (fun j hj => hv.1 j (by omega))).1
  obtain ⟨h5, h6, h7, h8⟩ := hR
  obtain ⟨g1, g2⟩ := h7 _ (Nat.le_refl _)
  subst h5
  subst h6
  rw [m_signOf h (by omega), jbin0_s, if_pos hi, m_begins, jbin0_s]
  refine wq_join fun k17 hk17 => ?_
  have hk : ∀ S1 y5 y6, RM T c (i + 1) S1 y5 y6 → frE S1 S → wq (k17 S1 y5 y6) Q := fun S1 y5 y6 h1 h2 => by
    rw [hk17]
    have := ih S1 y5 y6 h1 h2
    rw [← n32_succ] at this
    exact this
  clear hk17 ih
  have c10 : inb (Int32.ofNat (rd c i).2) 10 = true := n32_inb (by omega) (by omega)
  have c90 : (Int32.ofNat (rd c i).2).toNatClampNeg = (rd c i).2 := n32_cl (by omega)
  by_cases hTi : isT (c i) = true
  · rw [if_neg (show ¬ b2i (isT (c i)) = 0 by rw [hTi]; decide), chk_t c10]
    refine wq_join fun k49 hk49 => wq_join fun k50 hk50 => ?_
    rw [c90, g2, hT hTi, jbin0_s]
    have h40 : c i ≠ 40 := fun e => by rw [e] at hTi; exact absurd hTi (by decide)
    have h41 : c i ≠ 41 := fun e => by rw [e] at hTi; exact absurd hTi (by decide)
    have fin : ∀ v : Bool, v = ((em T c i).2.2.1 (rd c i).2 && (T i != (em T c i).2.2.2 (rd c i).2)) → wq (k49 (b2i v)) Q := fun v hv9 => by
      rw [hk49]
      refine wq_chk c10 (wq_let ?_)
      rw [c90, nar_b]
      refine hk _ _ _ ?_ (fun q j hq => jset_ne (by omega))
      unfold RM
      rw [rd_2o h40 h41, em_T hTi, em_d]
      unfold ubd
      dsimp only
      refine ⟨rfl, by rw [if_pos rfl]; rfl, fun j hj => ?_, fun j hj => ?_⟩
      · rw [jset_ne (q := 369) (by omega), jset_if]
        refine ⟨(h7 j hj).1, ?_⟩
        by_cases hjd : j = (rd c i).2
        · rw [if_pos ⟨rfl, hjd⟩, if_pos hjd, hv9]
        · rw [if_neg (fun h => hjd h.2), if_neg hjd]
          exact (h7 j hj).2
      · rw [jset_ne (by omega), if_neg (by omega)]
        exact h8 j hj
    have f1 : true = ((em T c i).2.2.1 (rd c i).2 && (T i != (em T c i).2.2.2 (rd c i).2)) → wq (k49 1) Q := fin true
    have f0 : false = ((em T c i).2.2.1 (rd c i).2 && (T i != (em T c i).2.2.2 (rd c i).2)) → wq (k50 ()) Q := by
      rw [hk50]
      exact fin false
    simp only [b2i_0, b2i_inj]
    refine wq_ite (fun hx => f0 (by rw [hx]; rfl)) (fun hx => wq_ite (fun hz => f0 (by rw [hz]; generalize (em T c i).2.2.2 (rd c i).2 = y; generalize (em T c i).2.2.1 (rd c i).2 = x; cases x <;> cases y <;> rfl)) (fun hz => f1 ?_))
    revert hx hz
    generalize (em T c i).2.2.2 (rd c i).2 = y
    generalize (em T c i).2.2.1 (rd c i).2 = x
    generalize T i = z
    cases x <;> cases y <;> cases z <;> simp
  · rw [if_pos (show b2i (isT (c i)) = 0 by rw [b2i_0]; simpa using hTi)]
    by_cases a33 : c i = 33
    · rw [if_pos a33]
      refine wq_join fun k47 hk47 => ?_
      have fin : ∀ x48, x48 = b2i (!(em T c i).2.2.2 (rd c i).2) → wq (k47 x48) Q := fun x48 hx => by
        rw [hk47]
        refine hk _ _ _ ?_ (fun _ _ _ => rfl)
        unfold RM
        rw [rd_2o (by rw [a33]; decide) (by rw [a33]; decide), em_33 a33, em_d]
        unfold ubd
        dsimp only
        refine ⟨rfl, by rw [if_pos rfl]; exact hx, h7, fun j hj => ?_⟩
        rw [if_neg (by omega)]
        exact h8 j hj
      simp only [b2i_0]
      refine wq_ite (fun hy => fin _ (by rw [hy]; rfl)) (fun hy => fin _ ?_)
      rw [show (em T c i).2.2.2 (rd c i).2 = true by simpa using hy]
      rfl
    rw [if_neg a33]
    by_cases a124 : c i = 124
    · rw [if_pos a124, chk_t c10]
      refine wq_join fun k38 hk38 => wq_join fun k39 hk39 => ?_
      rw [c90, g1, g2]
      have fin : ∀ v : Bool, v = ((em T c i).2.1 (rd c i).2 || (em T c i).2.2.1 (rd c i).2) → wq (k38 (b2i v)) Q := fun v hv9 => by
        rw [hk38]
        refine wq_chk c10 (wq_let (wq_chk c10 (wq_let ?_)))
        rw [c90, nar_b, nar_1]
        refine hk _ _ _ ?_ (fun q j hq => by rw [jset_ne (by omega), jset_ne (by omega)])
        unfold RM
        rw [rd_2o (by rw [a124]; decide) (by rw [a124]; decide), em_124 a124, em_d]
        unfold ubd
        dsimp only
        refine ⟨rfl, rfl, fun j hj => ?_, fun j hj => ?_⟩
        · rw [jset_ne (q := 369) (by omega), jset_if, jset_if]
          by_cases hjd : j = (rd c i).2
          · rw [if_pos ⟨rfl, hjd⟩, if_pos hjd, if_pos ⟨rfl, hjd⟩, if_pos hjd, hv9]
            exact ⟨rfl, rfl⟩
          · rw [if_neg (fun h => hjd h.2), if_neg hjd, if_neg (fun h => hjd h.2), if_neg hjd, jset_ne (by omega)]
            exact h7 j hj
        · rw [jset_ne (by omega), jset_ne (by omega)]
          exact h8 j hj
      have f1 : true = ((em T c i).2.1 (rd c i).2 || (em T c i).2.2.1 (rd c i).2) → wq (k39 ()) Q := by
        rw [hk39]
        exact fin true
      have f0 : false = ((em T c i).2.1 (rd c i).2 || (em T c i).2.2.1 (rd c i).2) → wq (k38 0) Q := fin false
      simp only [b2i_0]
      refine wq_ite (fun hx => wq_chk c10 (wq_ite (fun hz => f0 (by rw [hx, hz]; rfl)) (fun hz => f1 ?_))) (fun hx => f1 ?_)
      · rw [show (em T c i).2.2.1 (rd c i).2 = true by simpa using hz, Bool.or_true]
      · rw [show (em T c i).2.1 (rd c i).2 = true by simpa using hx, Bool.true_or]
    rw [if_neg a124]
    by_cases a40 : c i = 40
    · have hlt := v_open hv hi a40
      have c11 : inb (Int32.ofNat ((rd c i).2 + 1)) 10 = true := n32_inb (by omega) (by omega)
      rw [if_pos a40]
      refine wq_chk c10 (wq_let (wq_let ?_))
      rw [n32_succ]
      refine wq_chk c11 (wq_let (wq_chk c11 (wq_let ?_)))
      rw [c90, n32_cl (by omega), nar_b, nar_0, nar_1]
      refine hk _ _ _ ?_ (fun q j hq => by rw [jset_ne (by omega), jset_ne (by omega), jset_ne (by omega)])
      unfold RM
      rw [rd_2, if_pos a40, em_40 a40, em_d]
      unfold ubd
      dsimp only
      refine ⟨rfl, by rw [if_pos rfl]; rfl, fun j hj => ?_, fun j hj => ?_⟩
      · have e369 : jset (jset (jset S 371 (rd c i).2 (b2i ((em T c i).2.2.2 (rd c i).2))) 369 ((rd c i).2 + 1) 0) 370 ((rd c i).2 + 1) 1 369 j = if j = (rd c i).2 + 1 then 0 else S 369 j := by
          rw [jset_ne (by omega), jset_if]
          by_cases hjd : j = (rd c i).2 + 1
          · rw [if_pos ⟨rfl, hjd⟩, if_pos hjd]
          · rw [if_neg (fun h => hjd h.2), if_neg hjd, jset_ne (by omega)]
        have e370 : jset (jset (jset S 371 (rd c i).2 (b2i ((em T c i).2.2.2 (rd c i).2))) 369 ((rd c i).2 + 1) 0) 370 ((rd c i).2 + 1) 1 370 j = if j = (rd c i).2 + 1 then 1 else S 370 j := by
          rw [jset_if]
          by_cases hjd : j = (rd c i).2 + 1
          · rw [if_pos ⟨rfl, hjd⟩, if_pos hjd]
          · rw [if_neg (fun h => hjd h.2), if_neg hjd, jset_ne (by omega), jset_ne (by omega)]
        rw [e369, e370]
        by_cases hjd : j = (rd c i).2 + 1
        · simp only [if_pos hjd]
          exact ⟨rfl, rfl⟩
        · simp only [if_neg hjd]
          exact h7 j (by omega)
      · rw [jset_ne (by omega), jset_ne (by omega), jset_if]
        by_cases hjd : j = (rd c i).2
        · rw [if_pos ⟨rfl, hjd⟩, if_neg (by omega), hjd]
        · rw [if_neg (fun h => hjd h.2), if_neg (by omega)]
          exact h8 j (by omega)
    rw [if_neg a40]
    by_cases a41 : c i = 41
    · obtain ⟨hge, hst⟩ := v_close hv hi a41
      obtain ⟨d, hd⟩ : ∃ d, (rd c i).2 = d + 1 := ⟨(rd c i).2 - 1, by omega⟩
      have hnt : (em T c i).2.2.2 (rd c i).2 = false := by
        have := em_nt (T := T) hv i (by omega) hst
        rwa [em_d] at this
      have e22 : Int32.ofNat (rd c i).2 + (-1 : Int32) = Int32.ofNat d := by
        have e0 := n32_pred hge
        rw [Int32.sub_eq_add_neg] at e0
        rw [hd, Nat.add_sub_cancel] at e0
        rw [hd]
        exact e0
      obtain ⟨k1, k2⟩ := h7 d (by omega)
      have k3 := h8 d (by omega)
      have c9 : inb (Int32.ofNat d) 10 = true := n32_inb (by omega) (by omega)
      have c91 : (Int32.ofNat d).toNatClampNeg = d := n32_cl (by omega)
      rw [if_pos a41, chk_t c10]
      refine wq_join fun k18 hk18 => wq_join fun k19 hk19 => ?_
      rw [c90, g1, g2]
      have fin : ∀ v : Bool, v = ((em T c i).2.2.1 d && (((em T c i).2.1 (d + 1) || (em T c i).2.2.1 (d + 1)) != (em T c i).2.2.2 d)) → wq (chk (inb (Int32.ofNat d) 10) (letE (jset S 370 (Int32.ofNat d).toNatClampNeg (vp_nar .boolean (b2i v))) fun S27 => k17 S27 (Int32.ofNat d) (b2i ((em T c i).2.2.2 (rd c i).2)))) Q := fun v hv9 => by
        refine wq_chk c9 (wq_let ?_)
        rw [c91, nar_b]
        refine hk _ _ _ ?_ (fun q j hq => jset_ne (by omega))
        unfold RM
        rw [rd_2, if_neg a40, if_pos a41, em_41 a41, em_d, hnt, hd, Nat.add_sub_cancel]
        unfold ubd
        dsimp only
        refine ⟨rfl, by rw [if_pos rfl], fun j hj => ?_, fun j hj => ?_⟩
        · rw [jset_ne (q := 369) (by omega), jset_if]
          refine ⟨(h7 j (by omega)).1, ?_⟩
          by_cases hjd : j = d
          · rw [if_pos ⟨rfl, hjd⟩, if_pos hjd, hv9]
          · rw [if_neg (fun h => hjd h.2), if_neg hjd]
            exact (h7 j (by omega)).2
        · rw [jset_ne (by omega), if_neg (by omega)]
          exact h8 j (by omega)
      have pick : ∀ u : Bool, u = ((em T c i).2.1 (d + 1) || (em T c i).2.2.1 (d + 1)) → wq (k18 (b2i u)) Q := fun u hu => by
        rw [hk18]
        dsimp only
        rw [e22]
        refine wq_let ?_
        refine wq_chk c9 (wq_join fun k23 hk23 => wq_join fun k24 hk24 => ?_)
        rw [c91, k2, k3]
        have f1 : true = ((em T c i).2.2.1 d && (((em T c i).2.1 (d + 1) || (em T c i).2.2.1 (d + 1)) != (em T c i).2.2.2 d)) → wq (k23 1) Q := by
          rw [hk23]
          exact fin true
        have f0 : false = ((em T c i).2.2.1 d && (((em T c i).2.1 (d + 1) || (em T c i).2.2.1 (d + 1)) != (em T c i).2.2.2 d)) → wq (k24 ()) Q := by
          rw [hk24, hk23]
          exact fin false
        simp only [b2i_0, b2i_inj]
        refine wq_ite (fun hy => f0 (by rw [hy]; rfl)) (fun hy => wq_chk c9 (wq_ite (fun hw => f0 ?_) (fun hw => f1 ?_)))
        · rw [← hu, hw]
          generalize (em T c i).2.2.2 d = w
          generalize (em T c i).2.2.1 d = y
          cases y <;> cases w <;> rfl
        · rw [← hu]
          revert hy hw
          generalize (em T c i).2.2.2 d = w
          generalize (em T c i).2.2.1 d = y
          cases y <;> cases w <;> cases u <;> simp
      have p1 : true = ((em T c i).2.1 (d + 1) || (em T c i).2.2.1 (d + 1)) → wq (k19 ()) Q := by
        rw [hk19]
        exact pick true
      have p0 : false = ((em T c i).2.1 (d + 1) || (em T c i).2.2.1 (d + 1)) → wq (k18 0) Q := pick false
      rw [hd]
      simp only [b2i_0]
      refine wq_ite (fun hx => ?_) (fun hx => p1 ?_)
      · rw [hd] at c10
        refine wq_chk c10 (wq_ite (fun hz => p0 (by rw [hx, hz]; rfl)) (fun hz => p1 ?_))
        rw [show (em T c i).2.2.1 (d + 1) = true by simpa using hz, Bool.or_true]
      · rw [show (em T c i).2.1 (d + 1) = true by simpa using hx, Bool.true_or]
    rw [if_neg a41]
    refine hk _ _ _ ?_ (fun _ _ _ => rfl)
    unfold RM
    rw [rd_2o a40 a41, em_o hTi a33 a124 a40 a41]
    exact ⟨rfl, rfl, h7, h8⟩
end MME
