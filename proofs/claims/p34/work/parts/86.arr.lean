section ARR
/-- Integer.bitCount -/
def pc (p0 : Int32) : Int32 :=
  let x1 := p0 - (((p0.toUInt32 >>> ((1 : Int32).toUInt32 &&& Int32.toUInt32 31)).toInt32) &&& (1431655765 : Int32))
  let x2 := (x1 &&& (858993459 : Int32)) + (((x1.toUInt32 >>> ((2 : Int32).toUInt32 &&& Int32.toUInt32 31)).toInt32) &&& (858993459 : Int32))
  let x3 := (x2 + ((x2.toUInt32 >>> ((4 : Int32).toUInt32 &&& Int32.toUInt32 31)).toInt32)) &&& (252645135 : Int32)
  let x4 := x3 + ((x3.toUInt32 >>> ((8 : Int32).toUInt32 &&& Int32.toUInt32 31)).toInt32)
  let x5 := x4 + ((x4.toUInt32 >>> ((16 : Int32).toUInt32 &&& Int32.toUInt32 31)).toInt32)
  x5 &&& (63 : Int32)
theorem f_bitCount {x : Int32} : f_J6_bitCount_0f7a4 x = some (0, pc x, ()) := rfl
theorem pc_0 : pc 0 = Int32.ofNat 0 := by decide
def pcOk (n k : Nat) : Bool :=
  decide (pc (Int32.ofNat k) = Int32.ofNat (pc (Int32.ofNat k)).toNatClampNeg) && decide ((pc (Int32.ofNat k)).toNatClampNeg ≤ n) && (List.range n).all (fun i => bt (Int32.ofNat k) i || (decide ((pc (Int32.ofNat k)).toNatClampNeg < n) && decide (pc (wb (Int32.ofNat k) (Int32.ofNat i) 1) = Int32.ofNat ((pc (Int32.ofNat k)).toNatClampNeg + 1)))) &&
    (!((List.range n).all fun i => bt (Int32.ofNat k) i) || decide ((pc (Int32.ofNat k)).toNatClampNeg = n))
theorem pc_6 : ((List.range 64).all fun k => pcOk 6 k) = true := by decide +kernel
theorem pc_8 : ((List.range 256).all fun k => pcOk 8 k) = true := by decide +kernel
theorem bits_nat {n : Nat} {w : Int32} (hn : n ≤ 20) (h : bits n w) : ∃ k, k < 2 ^ n ∧ w = Int32.ofNat k := by
  refine ⟨w.toBitVec.toNat, ?_, ?_⟩
  · refine Nat.lt_pow_two_of_testBit _ fun j hj => ?_
    by_cases hj32 : j < 32
    · exact h j hj hj32
    · exact BitVec.testBit_toNat _ ▸ BitVec.getLsbD_of_ge _ _ (by omega)
  · refine Int32.toBitVec_inj.mp ?_
    show w.toBitVec = BitVec.ofNat 32 w.toBitVec.toNat
    rw [BitVec.ofNat_toNat, BitVec.setWidth_eq]
theorem pc_of {n : Nat} {w : Int32} (hn : n = 6 ∨ n = 8) (h : bits n w) : ∃ c, pc w = Int32.ofNat c ∧ c ≤ n ∧ (∀ i, i < n → bt w i = false → c < n ∧ pc (wb w (Int32.ofNat i) 1) = Int32.ofNat (c + 1)) ∧ ((∀ i, i < n → bt w i = true) → c = n) := by
  obtain ⟨k, hk, rfl⟩ := bits_nat (by omega) h
  have hok : pcOk n k = true := by
    rcases hn with rfl | rfl
    · exact List.all_eq_true.mp pc_6 k (List.mem_range.mpr hk)
    · exact List.all_eq_true.mp pc_8 k (List.mem_range.mpr hk)
  unfold pcOk at hok
  simp only [Bool.and_eq_true, decide_eq_true_eq, List.all_eq_true, List.mem_range, Bool.or_eq_true, Bool.not_eq_true'] at hok
  obtain ⟨⟨⟨h1, h2⟩, h3⟩, h4⟩ := hok
  refine ⟨_, h1, h2, fun i hi hb => ?_, fun hall => ?_⟩
  · rcases h3 i hi with h9 | h9
    · rw [hb] at h9
      exact absurd h9 (by decide)
    · exact h9
  · rcases h4 with h9 | h9
    · have : ((List.range n).all fun i => bt (Int32.ofNat k) i) = true := List.all_eq_true.mpr fun i hi => hall i (List.mem_range.mp hi)
      rw [this] at h9
      exact absurd h9 (by decide)
    · exact h9
/-- what is placed so far -/
def Plc (T : Nat → Int32) (n : Nat) (O : Nat → Int32) (w : Int32) (pos : Nat → Nat) (c : Nat) : Prop := bits n w ∧ pc w = Int32.ofNat c ∧ c ≤ n ∧ (∀ j, j < c → ∃ i, i < n ∧ bt w i = true ∧ O j = Int32.ofNat i ∧ pos i = j) ∧ ∀ i, i < n → bt w i = true → pos i < c ∧ O (pos i) = Int32.ofNat i ∧ ∀ j, bt (T i) j = true → bt w j = true ∧ pos j < pos i
theorem Plc_put {T : Nat → Int32} {n c i : Nat} {O : Nat → Int32} {w : Int32} {pos : Nat → Nat} (hn : n = 6 ∨ n = 8) (h : Plc T n O w pos c) (hi : i < n) (hb : bt w i = false) (hT : ∀ j, bt (T i) j = true → j < n ∧ bt w j = true) : c < n ∧ Plc T n (upd O c (Int32.ofNat i)) (wb w (Int32.ofNat i) 1) (fun k => if k = i then c else pos k) (c + 1) := by
  obtain ⟨h1, h2, h3, h4, h5⟩ := h
  obtain ⟨c1, e1, _, hp, _⟩ := pc_of hn h1
  have hc1 : c1 = c := n32_inj (by omega) (by omega) (e1.symm.trans h2)
  subst hc1
  obtain ⟨hlt, e2⟩ := hp i hi hb
  refine ⟨hlt, bits_wb h1 hi (by omega), e2, hlt, fun j hj => ?_, fun k hk hbk => ?_⟩
  · by_cases hjc : j = c1
    · refine ⟨i, hi, ?_, ?_, ?_⟩
      · rw [wb_bt (by omega) (by omega), if_pos rfl]
        rfl
      · unfold upd
        rw [if_pos hjc]
      · dsimp only
        rw [if_pos rfl, hjc]
    · obtain ⟨k, hk, hbk, eO, ep⟩ := h4 j (by omega)
      have hki : k ≠ i := fun h => by rw [h, hb] at hbk; exact absurd hbk (by decide)
      refine ⟨k, hk, ?_, ?_, ?_⟩
      · rw [wb_bt (by omega) (by omega), if_neg hki]
        exact hbk
      · unfold upd
        rw [if_neg hjc]
        exact eO
      · dsimp only
        rw [if_neg hki]
        exact ep
  · rw [wb_bt (by omega) (by omega)] at hbk
    by_cases hki : k = i
    · subst hki
      dsimp only
      rw [if_pos rfl]
      refine ⟨by omega, by unfold upd; rw [if_pos rfl], fun j hj => ?_⟩
      obtain ⟨hjn, hjw⟩ := hT j hj
      have hjk : j ≠ k := fun h => by rw [h, hb] at hjw; exact absurd hjw (by decide)
      rw [wb_bt (by omega) (by omega), if_neg hjk, if_neg hjk]
      exact ⟨hjw, (h5 j hjn hjw).1⟩
    · rw [if_neg hki] at hbk
      obtain ⟨g1, g2, g3⟩ := h5 k hk hbk
      dsimp only
      rw [if_neg hki]
      refine ⟨by omega, ?_, fun j hj => ?_⟩
      · unfold upd
        rw [if_neg (by omega)]
        exact g2
      · obtain ⟨a1, a2⟩ := g3 j hj
        have hji : j ≠ i := fun h => by rw [h, hb] at a1; exact absurd a1 (by decide)
        have hjn : j < 32 := by
          rcases Nat.lt_or_ge j 32 with h9 | h9
          · exact h9
          · have : bt w j = false := BitVec.getLsbD_of_ge _ _ h9
            rw [this] at a1
            exact absurd a1 (by decide)
        rw [wb_bt (by omega) hjn, if_neg hji, if_neg hji]
        exact ⟨a1, a2⟩
def frO (m : Nat) (S1 S : jS) : Prop := ∀ q j, q ≠ m → S1 q j = S q j
theorem f_arrange {S : jS} {b0 n : Nat} {rank : Nat → Nat} (hn : n = 6 ∨ n = 8) (hTb : ∀ i, i < n → bits n (S (b0 + 1) i)) (hr : ∀ i, i < n → rank i < n ∧ ∀ j, j < n → bt (S (b0 + 1) i) j = true → rank j < rank i) :
    ∃ S1 pos v, f_X4_arrange S b0 n = some (0, v, S1) ∧ frO (b0 + 2) S1 S ∧ OrdC S1 (b0 + 2) n pos ∧ ∀ i, i < n → ∀ j, j < n → bt (S (b0 + 1) i) j = true → pos j < pos i := by
  suffices hw : wq (f_X4_arrange S b0 n) (fun t v S1 => t = 0 ∧ frO (b0 + 2) S1 S ∧ ∃ pos, OrdC S1 (b0 + 2) n pos ∧ ∀ i, i < n → ∀ j, j < n → bt (S (b0 + 1) i) j = true → pos j < pos i) by
    obtain ⟨t, v, S1, e, rfl, h1, pos, h2⟩ := wq_ex hw
    exact ⟨S1, pos, v, e, h1, h2⟩
  have hTlt : ∀ i, i < n → ∀ j, bt (S (b0 + 1) i) j = true → j < n := fun i hi j hj => by
    rcases Nat.lt_or_ge j n with h9 | h9
    · exact h9
    · by_cases h32 : j < 32
      · rw [hTb i hi j h9 h32] at hj
        exact absurd hj (by decide)
      · have : bt (S (b0 + 1) i) j = false := BitVec.getLsbD_of_ge _ _ (by omega)
        rw [this] at hj
        exact absurd hj (by decide)
  unfold f_X4_arrange
  refine wq_for (fun (K : jS → Int32 → Int32 → Option (jR jS)) i (b : jS × Int32) => K b.1 b.2 i) n (fun r b => frO (b0 + 2) b.1 S ∧ (∃ pos c, Plc (S (b0 + 1)) n (b.1 (b0 + 2)) b.2 pos c) ∧ ∀ i, i < n → rank i < r → bt b.2 i = true) (fun rec r b hr1 hb ih => ?_) (fun rec b hb => ?_) n 0 1000 (S, 0) (by omega) (by omega) ⟨fun _ _ _ => rfl, ⟨fun _ => 0, 0, bits_0, pc_0, Nat.zero_le _, fun j hj => absurd hj (Nat.not_lt_zero _), fun i _ h => by rw [bt_0] at h; exact absurd h (by decide)⟩, fun i _ h => absurd h (Nat.not_lt_zero _)⟩
  · obtain ⟨S2, w⟩ := b
    obtain ⟨hf, hpl, hrd⟩ := hb
    dsimp only at hf hpl hrd ⊢
    have e1 : (Int32.ofNat n ≤ Int32.ofNat r) = (n ≤ r) := n32_le (by omega) (by omega)
    refine wq_ite (fun h => absurd (Eq.mp e1 h) (by omega)) (fun _ => ?_)
    refine wq_for (fun (K : jS → Int32 → Int32 → Option (jR jS)) i (b : jS × Int32) => K b.1 b.2 i) n (fun m b => frO (b0 + 2) b.1 S ∧ (∃ pos c, Plc (S (b0 + 1)) n (b.1 (b0 + 2)) b.2 pos c) ∧ (∀ i, i < n → rank i < r → bt b.2 i = true) ∧ ∀ i, i < m → rank i ≤ r → bt b.2 i = true) (fun rec5 m b hm hb ih5 => ?_) (fun rec5 b hb => ?_) n 0 1000 (S2, w) (by omega) (by omega) ⟨hf, hpl, hrd, fun i h => absurd h (Nat.not_lt_zero _)⟩
    · obtain ⟨S6, x⟩ := b
      obtain ⟨hf6, ⟨pos, c, hp6⟩, hr6, hm6⟩ := hb
      dsimp only at hf6 hp6 hr6 hm6 ⊢
      have e2 : (Int32.ofNat n ≤ Int32.ofNat m) = (n ≤ m) := n32_le (by omega) (by omega)
      refine wq_ite (fun h => absurd (Eq.mp e2 h) (by omega)) (fun _ => ?_)
      rw [f_hasBit, jbin0_s, hb_bt (by omega)]
      refine wq_join fun k11 hk11 => ?_
      have stay : (rank m ≤ r → bt x m = true) → wq (k11 S6 x) _ := fun h => by
        rw [hk11]
        dsimp only
        rw [n32_succ]
        refine wq_let (ih5 (S6, x) ⟨hf6, ⟨pos, c, hp6⟩, hr6, fun i hi hri => ?_⟩)
        by_cases him : i = m
        · rw [him] at hri ⊢
          exact h hri
        · exact hm6 i (by omega) hri
      by_cases hbm : bt x m = true
      · rw [if_pos hbm, if_neg (by decide)]
        exact stay fun _ => hbm
      · rw [if_neg hbm, if_pos rfl]
        have hbm0 : bt x m = false := by simpa using hbm
        refine wq_chk (n32_inb (by omega) hm) ?_
        have eS : S6 (b0 + 1) (Int32.ofNat m).toNatClampNeg = S (b0 + 1) m := by rw [n32_cl (by omega), hf6 (b0 + 1) m (by omega)]
        refine wq_ite (fun hz => ?_) (fun hz => ?_)
        · have hz : S6 (b0 + 1) (Int32.ofNat m).toNatClampNeg &&& (x ^^^ -1) = 0 := hz
          rw [eS] at hz
          have hsub : ∀ j, bt (S (b0 + 1) m) j = true → j < n ∧ bt x j = true := fun j hj => by
            have hjn := hTlt m hm j hj
            refine ⟨hjn, ?_⟩
            have := congrArg (fun w => bt w j) hz
            simp only [bt_and, bt_not (show j < 32 by omega), hj, Bool.true_and, bt_0] at this
            simpa using this
          obtain ⟨hlt, hput⟩ := Plc_put hn hp6 hm hbm0 hsub
          rw [f_bitCount, jbin0_s, hp6.2.1]
          refine wq_chk (n32_inb (by omega) hlt) (wq_let ?_)
          rw [f_withBit, jbin0_s, n32_cl (show c ≤ 100000 by omega), hk11]
          dsimp only
          rw [n32_succ]
          refine wq_let (ih5 (jset S6 (b0 + 2) c (Int32.ofNat m), wb x (Int32.ofNat m) 1) ⟨fun q j hq => ?_, ⟨fun k => if k = m then c else pos k, c + 1, ?_⟩, fun i hi hri => ?_, fun i hi hri => ?_⟩)
          · dsimp only
            rw [jset_ne (by omega)]
            exact hf6 q j hq
          · have : jset S6 (b0 + 2) c (Int32.ofNat m) (b0 + 2) = upd (S6 (b0 + 2)) c (Int32.ofNat m) := if_pos rfl
            dsimp only
            rw [this]
            exact hput
          · dsimp only
            rw [wb_bt (by omega) (by omega)]
            by_cases him : i = m
            · rw [if_pos him]
              rfl
            · rw [if_neg him]
              exact hr6 i hi hri
          · dsimp only
            rw [wb_bt (by omega) (by omega)]
            by_cases him : i = m
            · rw [if_pos him]
              rfl
            · rw [if_neg him]
              exact hm6 i (by omega) hri
        · have hz : ¬ (S6 (b0 + 1) (Int32.ofNat m).toNatClampNeg &&& (x ^^^ -1) = 0) := hz
          rw [eS] at hz
          refine stay fun hrm => absurd ?_ hz
          refine bt_ext fun j hj => ?_
          rw [bt_and, bt_not hj, bt_0]
          by_cases hbj : bt (S (b0 + 1) m) j = true
          · have hjn := hTlt m hm j hbj
            have := (hr m hm).2 j hjn hbj
            rw [hr6 j hjn (by omega)]
            rw [hbj]
            rfl
          · rw [show bt (S (b0 + 1) m) j = false by simpa using hbj]
            rfl
    · obtain ⟨S6, x⟩ := b
      obtain ⟨hf6, hp6, hr6, hm6⟩ := hb
      dsimp only at hf6 hp6 hr6 hm6 ⊢
      refine wq_ite (fun _ => ?_) (fun h => absurd (Int32.le_refl _) h)
      rw [n32_succ]
      exact wq_let (ih (S6, x) ⟨hf6, hp6, fun i hi hri => hm6 i hi (by omega)⟩)
  · obtain ⟨S2, w⟩ := b
    obtain ⟨hf, ⟨pos, c, hp⟩, hrd⟩ := hb
    dsimp only at hf hp hrd ⊢
    refine wq_ite (fun _ => ?_) (fun h => absurd (Int32.le_refl _) h)
    have hall : ∀ i, i < n → bt w i = true := fun i hi => hrd i hi (hr i hi).1
    obtain ⟨h1, h2, h3, h4, h5⟩ := hp
    obtain ⟨c1, e1, _, _, hc⟩ := pc_of hn h1
    have hc1 : c1 = c := n32_inj (by omega) (by omega) (e1.symm.trans h2)
    have hcn : c = n := hc1 ▸ hc hall
    subst hcn
    refine ⟨rfl, hf, pos, ⟨fun j hj => ?_, fun i hi => ?_⟩, fun i hi j hj hb => ?_⟩
    · obtain ⟨i, a1, _, a2, a3⟩ := h4 j hj
      exact ⟨i, a1, a2, a3⟩
    · obtain ⟨a1, a2, _⟩ := h5 i hi (hall i hi)
      exact ⟨a1, a2⟩
    · exact ((h5 i hi (hall i hi)).2.2 j hb).2
end ARR
