section EVD
theorem RC_33 {T : Nat → Nat → Bool} {c : Nat → Int32} {i : Nat} {S : jS} (h : RC T c i S) (hc : c i = 33) : RC T c (i + 1) (jset S 36 (rd c i).2 (S 36 (rd c i).2 ^^^ 1048575)) := by
  unfold RC
  rw [rd_2o (by rw [hc]; decide) (by rw [hc]; decide)]
  refine ⟨?_, fun j hj => ?_⟩
  · rw [jset_ne (by omega)]
    exact h.1
  · obtain ⟨h1, h2, h3⟩ := h.2 j hj
    rw [jset_ne (q := 34) (by omega), jset_ne (q := 35) (by omega), jset_if]
    refine ⟨h1, h2, fun p hp => ?_⟩
    obtain ⟨a1, a2, a3⟩ := h3 p hp
    rw [em_33 hc, em_d]
    refine ⟨a1, a2, ?_⟩
    unfold ubd
    dsimp only
    by_cases hjd : j = (rd c i).2
    · rw [if_pos ⟨rfl, hjd⟩, if_pos hjd, bt_xor, bt_every (by omega), ← hjd, a3]
      simp [hp]
    · rw [if_neg (fun h => hjd h.2), if_neg hjd]
      exact a3
theorem RC_124 {T : Nat → Nat → Bool} {c : Nat → Int32} {i : Nat} {S : jS} (h : RC T c i S) (hc : c i = 124) : RC T c (i + 1) (jset (jset S 34 (rd c i).2 (S 34 (rd c i).2 ||| S 35 (rd c i).2)) 35 (rd c i).2 1048575) := by
  unfold RC
  rw [rd_2o (by rw [hc]; decide) (by rw [hc]; decide)]
  refine ⟨?_, fun j hj => ?_⟩
  · rw [jset_ne (by omega), jset_ne (by omega)]
    exact h.1
  · obtain ⟨h1, h2, h3⟩ := h.2 j hj
    have e34 : jset (jset S 34 (rd c i).2 (S 34 (rd c i).2 ||| S 35 (rd c i).2)) 35 (rd c i).2 1048575 34 j = if j = (rd c i).2 then S 34 j ||| S 35 j else S 34 j := by
      rw [jset_ne (by omega), jset_if]
      by_cases hjd : j = (rd c i).2
      · rw [if_pos ⟨rfl, hjd⟩, if_pos hjd, hjd]
      · rw [if_neg (fun h => hjd h.2), if_neg hjd]
    have e35 : jset (jset S 34 (rd c i).2 (S 34 (rd c i).2 ||| S 35 (rd c i).2)) 35 (rd c i).2 1048575 35 j = if j = (rd c i).2 then 1048575 else S 35 j := by
      rw [jset_if]
      by_cases hjd : j = (rd c i).2
      · rw [if_pos ⟨rfl, hjd⟩, if_pos hjd]
      · rw [if_neg (fun h => hjd h.2), if_neg hjd, jset_ne (by omega)]
    rw [e34, e35, jset_ne (q := 36) (by omega), jset_ne (q := 36) (by omega)]
    by_cases hjd : j = (rd c i).2
    · rw [if_pos hjd, if_pos hjd]
      refine ⟨bits_or h1 h2, fun k h8 h9 => by rw [bt_every h9]; simp; omega, fun p hp => ?_⟩
      obtain ⟨a1, a2, a3⟩ := h3 p hp
      rw [em_124 hc, em_d]
      unfold ubd
      dsimp only
      rw [if_pos hjd, if_pos hjd, bt_or, a1, a2, bt_every (by omega), ← hjd]
      exact ⟨rfl, by simp [hp], a3⟩
    · rw [if_neg hjd, if_neg hjd]
      refine ⟨h1, h2, fun p hp => ?_⟩
      obtain ⟨a1, a2, a3⟩ := h3 p hp
      rw [em_124 hc, em_d]
      unfold ubd
      dsimp only
      rw [if_neg hjd, if_neg hjd]
      exact ⟨a1, a2, a3⟩
theorem RC_40 {T : Nat → Nat → Bool} {c : Nat → Int32} {i : Nat} {S S1 : jS} (h : RC T c i S) (hc : c i = 40) (e3 : S1 33 3 = Int32.ofNat ((rd c i).2 + 1)) (e : ∀ q j, (q = 34 ∨ q = 35 ∨ q = 36) → S1 q j = if j = (rd c i).2 + 1 then (if q = 35 then 1048575 else 0) else S q j) : RC T c (i + 1) S1 := by
  unfold RC
  rw [rd_2, if_pos hc]
  refine ⟨e3, fun j hj => ?_⟩
  rw [e 34 j (by omega), e 35 j (by omega), e 36 j (by omega)]
  by_cases hjd : j = (rd c i).2 + 1
  · rw [if_pos hjd, if_pos hjd, if_pos hjd]
    refine ⟨bits_0, fun k h8 h9 => by rw [if_pos rfl, bt_every h9]; simp; omega, fun p hp => ?_⟩
    rw [em_40 hc, em_d]
    unfold ubd
    dsimp only
    rw [if_pos hjd, if_pos hjd, if_pos hjd, if_neg (by decide), if_pos rfl, bt_0, bt_every (by omega)]
    exact ⟨rfl, by simp [hp], by rw [if_neg (by decide), bt_0]⟩
  · rw [if_neg hjd, if_neg hjd, if_neg hjd]
    obtain ⟨h1, h2, h3⟩ := h.2 j (by omega)
    refine ⟨h1, h2, fun p hp => ?_⟩
    obtain ⟨a1, a2, a3⟩ := h3 p hp
    rw [em_40 hc, em_d]
    unfold ubd
    dsimp only
    rw [if_neg hjd, if_neg hjd, if_neg hjd]
    exact ⟨a1, a2, a3⟩
theorem RC_41 {T : Nat → Nat → Bool} {c : Nat → Int32} {i d : Nat} {S S1 : jS} (h : RC T c i S) (hc : c i = 41) (hd : (rd c i).2 = d + 1) (e3 : S1 33 3 = Int32.ofNat d) (e34 : ∀ j, S1 34 j = S 34 j) (e35 : ∀ j, S1 35 j = if j = d then S 35 d &&& ((S 34 (d + 1) ||| S 35 (d + 1)) ^^^ S 36 d) else S 35 j) (e36 : ∀ j, S1 36 j = if j = d then 0 else S 36 j) : RC T c (i + 1) S1 := by
  unfold RC
  rw [rd_2, if_neg (by rw [hc]; decide), if_pos hc, hd, Nat.add_sub_cancel]
  refine ⟨e3, fun j hj => ?_⟩
  rw [e34, e35, e36]
  obtain ⟨h1, h2, h3⟩ := h.2 j (by omega)
  by_cases hjd : j = d
  · rw [if_pos hjd, if_pos hjd]
    subst hjd
    obtain ⟨g1, g2, g3⟩ := h.2 (j + 1) (by omega)
    refine ⟨h1, bits_and h2, fun p hp => ?_⟩
    obtain ⟨a1, a2, a3⟩ := h3 p hp
    obtain ⟨b1, b2, b3⟩ := g3 p hp
    rw [em_41 hc, em_d, hd]
    unfold ubd
    dsimp only
    rw [Nat.add_sub_cancel, if_pos rfl, if_pos rfl, bt_and, bt_xor, bt_or, a2, a3, b1, b2, bt_0]
    exact ⟨a1, rfl, rfl⟩
  · rw [if_neg hjd, if_neg hjd]
    refine ⟨h1, h2, fun p hp => ?_⟩
    obtain ⟨a1, a2, a3⟩ := h3 p hp
    rw [em_41 hc, em_d, hd]
    unfold ubd
    dsimp only
    rw [Nat.add_sub_cancel, if_neg hjd, if_neg hjd]
    exact ⟨a1, a2, a3⟩
theorem RC_o {T : Nat → Nat → Bool} {c : Nat → Int32} {i : Nat} {S : jS} (h : RC T c i S) (h0 : ¬ isT (c i) = true) (h1 : c i ≠ 33) (h2 : c i ≠ 124) (h3 : c i ≠ 40) (h4 : c i ≠ 41) : RC T c (i + 1) S := by
  unfold RC
  rw [rd_2o h3 h4]
  refine ⟨h.1, fun j hj => ?_⟩
  obtain ⟨g1, g2, g3⟩ := h.2 j hj
  refine ⟨g1, g2, fun p hp => ?_⟩
  rw [em_o h0 h1 h2 h3 h4]
  exact g3 p hp
/-- one sign, read by the class -/
theorem f_read {T : Nat → Nat → Bool} {c : Nat → Int32} {n i b a3 : Nat} {S : jS} (hv : Valid c n) (ht : TxC S b n) (hc : ∀ j, j < n → S (b + 1) j = c j) (hi : i < n) (h : RC T c i S) (hT : ∀ p, p < 20 → isT (c i) = true → T p i = tst (fun p k => S (3 + p) k) (S 23) (S a3) c n p i) :
    ∃ S1, f_X2_readSign S b (Int32.ofNat i) a3 = some (0, 0, S1) ∧ RC T c (i + 1) S1 ∧ ∀ q j, (q < 33 ∨ 36 < q) → S1 q j = S q j := by
  have hn := ht.1
  have h3 := h.1
  have hle := (rd_le (c := c) i (fun j hj => hv.1 j (by omega))).1
  have hfr : ∀ (x y : Int32) q j, (q < 33 ∨ 36 < q) → jset (jset S 35 (rd c i).2 x) 36 (rd c i).2 y q j = S q j := fun x y q j hq => by
    rw [jset_ne (by omega), jset_ne (by omega)]
  unfold f_X2_readSign
  rw [f_signAt ht (by omega), jbin0_s, if_pos hi, hc i hi]
  unfold joinK letE
  dsimp only
  by_cases a33 : c i = 33
  · rw [if_pos a33, h3, chk_t (n32_inb (by omega) (by omega)), chk_t (n32_inb (by omega) (by omega)), n32_cl (by omega)]
    exact ⟨_, rfl, RC_33 h a33, fun q j hq => jset_ne (by omega)⟩
  rw [if_neg a33]
  by_cases a40 : c i = 40
  · have hlt := v_open hv hi a40
    have e8 : ((8 : Int32) ≤ Int32.ofNat (rd c i).2) = (8 ≤ (rd c i).2) := n32_le (n := 8) (by omega) (by omega)
    rw [if_pos a40, h3]
    simp only [e8]
    rw [if_neg (by omega), n32_succ, f_beg (d := (rd c i).2 + 1) (by omega) jset_at, jbin0_s]
    refine ⟨_, rfl, RC_40 h a40 ?_ ?_, fun q j hq => ?_⟩
    · rw [jset_ne (by omega), jset_ne (by omega), jset_ne (by omega), jset_at]
    · intro q j hq
      simp only [jset_if]
      rcases hq with rfl | rfl | rfl <;> by_cases hj : j = (rd c i).2 + 1 <;> simp [hj]
    · rw [jset_ne (by omega), jset_ne (by omega), jset_ne (by omega), jset_ne (by omega)]
  rw [if_neg a40]
  by_cases a41 : c i = 41
  · obtain ⟨hge, _⟩ := v_close hv hi a41
    obtain ⟨d, hd⟩ : ∃ d, (rd c i).2 = d + 1 := ⟨(rd c i).2 - 1, by omega⟩
    have e0 : (Int32.ofNat (rd c i).2 ≤ (0 : Int32)) = ((rd c i).2 ≤ 0) := n32_le (i := 0) (by omega) (by omega)
    rw [if_pos a41, h3]
    simp only [e0]
    rw [if_neg (by omega), n32_pred hge, hd, Nat.add_sub_cancel, jset_at, n32_succ, chk_t (n32_inb (by omega) (by omega)), chk_t (n32_inb (by omega) (by omega)), n32_cl (by omega), f_add (d := d) (by omega) jset_at, jbin0_s]
    refine ⟨_, rfl, RC_41 (d := d) h a41 hd ?_ ?_ ?_ ?_, fun q j hq => ?_⟩
    · rw [jset_ne (by omega), jset_ne (by omega), jset_at]
    · intro j
      rw [jset_ne (by omega), jset_ne (by omega), jset_ne (by omega)]
    · intro j
      rw [jset_ne (by omega), jset_if]
      by_cases hj : j = d
      · rw [if_pos ⟨rfl, hj⟩, if_pos hj, jset_ne (by omega), jset_ne (by omega), jset_ne (by omega), jset_ne (by omega)]
      · rw [if_neg (fun h => hj h.2), if_neg hj, jset_ne (by omega)]
    · intro j
      rw [jset_if]
      by_cases hj : j = d
      · rw [if_pos ⟨rfl, hj⟩, if_pos hj]
      · rw [if_neg (fun h => hj h.2), if_neg hj, jset_ne (by omega), jset_ne (by omega)]
    · rw [jset_ne (by omega), jset_ne (by omega), jset_ne (by omega)]
  rw [if_neg a41]
  by_cases a42 : c i = 42
  · have hTi : isT (c i) = true := by rw [a42]; decide
    rw [if_pos a42, f_add (d := (rd c i).2) (by omega) h3, jbin0_s]
    refine ⟨_, rfl, RC_add h hTi (fun p hp => ?_), hfr _ _⟩
    rw [hT p hp hTi, bt_every (by omega)]
    unfold tst
    rw [if_pos a42]
    simp [hp]
  rw [if_neg a42]
  by_cases a64 : c i = 64
  · have hTi : isT (c i) = true := by rw [a64]; decide
    obtain ⟨h1, h2⟩ := v_ref hv hi a64
    obtain ⟨d, hd, e, e1⟩ := dg_of (m := 5) (by omega) h2
    have h2' : 48 ≤ S (b + 1) (i + 1) ∧ S (b + 1) (i + 1) ≤ 57 := by
      rw [hc _ h1]
      exact ⟨h2.1, Int32.le_trans h2.2 (by decide)⟩
    rw [if_pos a64, n32_succ, f_digitAt ht (by omega), jbin0_s, if_pos ⟨h1, h2'⟩, hc _ h1, e, f_who_in (by omega), jbin0_s, f_add (d := (rd c i).2) (by omega) h3, jbin0_s]
    refine ⟨_, rfl, RC_add h hTi (fun p hp => ?_), hfr _ _⟩
    rw [hT p hp hTi]
    unfold tst
    rw [if_neg a42, if_neg (by rw [a64]; decide), if_pos a64, e1]
  rw [if_neg a64]
  have cmp : ∀ k, k < 3 → (c i = 108 ∨ c i = 97 ∨ c i = 112) → (if c i = 108 then 0 else if c i = 97 then 1 else 2) = k →
      ∃ S1, jbin0 (f_X8_signAt S b (Int32.ofNat i + 1)) (fun v34 _ => jbin0 (f_X8_numberAt S b (Int32.ofNat i + (2 : Int32))) (fun v35 _ => jbin0 (f_X6_whoCompares S (Int32.ofNat k) v34 v35) (fun v36 _ => jbin0 (f_X2_addFactor S v36) (fun _ S37 => some ((0 : Nat), (0 : Int32), S37))))) = some (0, 0, S1) ∧ RC T c (i + 1) S1 ∧ ∀ q j, (q < 33 ∨ 36 < q) → S1 q j = S q j := fun k hk hl hlk => by
    have hTi : isT (c i) = true := by rcases hl with e | e | e <;> rw [e] <;> decide
    obtain ⟨h1, h2, h5⟩ := v_cmp hv hi hl
    have h5' : 48 ≤ S (b + 1) (i + 2) ∧ S (b + 1) (i + 2) ≤ 57 := by
      rw [hc _ h2]
      exact h5
    have e2 : Int32.ofNat i + (2 : Int32) = Int32.ofNat (i + 2) := n32_add 2
    obtain ⟨W, eW, _, hW⟩ := f_who_cmp (S := S) (r := c (i + 1)) (x := num c n (i + 2)) hk
    have en : num (S (b + 1)) n (i + 2) = num c n (i + 2) := by
      unfold num
      rw [hc _ h2]
      by_cases h9 : i + 2 + 1 < n
      · rw [hc _ h9]
      · rw [if_neg (fun h => h9 h.1), if_neg (fun h => h9 h.1)]
    rw [n32_succ, f_signAt ht (by omega), jbin0_s, if_pos h1, hc _ h1, e2, f_numberAt ht h2 h5', jbin0_s, en, eW, jbin0_s, f_add (d := (rd c i).2) (by omega) h3, jbin0_s]
    refine ⟨_, rfl, RC_add h hTi (fun p hp => ?_), hfr _ _⟩
    rw [hT p hp hTi, hW p hp]
    unfold tst
    rw [if_neg a42, if_neg (by rcases hl with e | e | e <;> rw [e] <;> decide), if_neg a64, hlk]
  by_cases a97 : c i = 97
  · rw [if_pos a97]
    exact cmp 1 (by omega) (Or.inr (Or.inl a97)) (by rw [a97]; rfl)
  rw [if_neg a97]
  by_cases a108 : c i = 108
  · rw [if_pos a108]
    exact cmp 0 (by omega) (Or.inl a108) (by rw [a108]; rfl)
  rw [if_neg a108]
  by_cases a112 : c i = 112
  · rw [if_pos a112]
    exact cmp 2 (by omega) (Or.inr (Or.inr a112)) (by rw [a112]; rfl)
  rw [if_neg a112]
  by_cases a116 : c i = 116
  · have hTi : isT (c i) = true := by rw [a116]; decide
    obtain ⟨h1, h2⟩ := v_tag hv hi a116
    obtain ⟨d, hd, e, e1⟩ := dg_of (m := 7) (by omega) h2
    have h2' : 48 ≤ S (b + 1) (i + 1) ∧ S (b + 1) (i + 1) ≤ 57 := by
      rw [hc _ h1]
      exact ⟨h2.1, Int32.le_trans h2.2 (by decide)⟩
    obtain ⟨W, eW, _, hW⟩ := f_who_tag (S := S) (k := d) (by omega)
    rw [if_pos a116, n32_succ, f_digitAt ht (by omega), jbin0_s, if_pos ⟨h1, h2'⟩, hc _ h1, e, eW, jbin0_s, f_add (d := (rd c i).2) (by omega) h3, jbin0_s]
    refine ⟨_, rfl, RC_add h hTi (fun p hp => ?_), hfr _ _⟩
    rw [hT p hp hTi, hW p hp]
    unfold tst
    rw [if_neg a42, if_pos a116, e1]
  rw [if_neg a116]
  by_cases a124 : c i = 124
  · rw [if_pos a124, h3, chk_t (n32_inb (by omega) (by omega)), chk_t (n32_inb (by omega) (by omega)), chk_t (n32_inb (by omega) (by omega)), jset_ne (by omega), h3, chk_t (n32_inb (by omega) (by omega)), n32_cl (by omega)]
    exact ⟨_, rfl, RC_124 h a124, fun q j hq => by rw [jset_ne (by omega), jset_ne (by omega)]⟩
  rw [if_neg a124]
  refine ⟨S, rfl, RC_o h (fun hTi => ?_) a33 a124 a40 a41, fun _ _ _ => rfl⟩
  rcases of_decide_eq_true hTi with e | e | e | e | e | e
  · exact a42 e
  · exact a108 e
  · exact a97 e
  · exact a112 e
  · exact a116 e
  · exact a64 e
end EVD
