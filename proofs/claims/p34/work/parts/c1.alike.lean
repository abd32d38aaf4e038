section ALK
theorem low20 {x : Int32} : ∃ k, k < 20 ∧ f_L_low x (20 : Int32) = some (0, Int32.ofNat k, ()) := f_low (n := 20) (by omega) (by omega)
/-- what both things are asked, they answer alike -/
theorem w_alike {S T SM : jS} {L L2 : jLg} (h : InvL S L SM) (h2 : InvL T L2 SM) (v : Int32) : ∃ S1 T1, f_L_areAlike S T L L2 v = some (0, 1, (S1, T1)) ∧ InvL S1 L SM ∧ InvL T1 L2 SM := by
  suffices hw : wq (f_L_areAlike S T L L2 v) (fun t v9 ST => t = 0 ∧ v9 = 1 ∧ InvL ST.1 L SM ∧ InvL ST.2 L2 SM) by
    obtain ⟨t, v9, ST, e, rfl, rfl, a, b⟩ := wq_ex hw
    exact ⟨ST.1, ST.2, e, a, b⟩
  unfold f_L_areAlike
  rw [f_entries, jbin0_s, f_entries, jbin0_s]
  have hL : Int32.ofNat L.length = Int32.ofNat L2.length := h.2.2.2.2.2.2.2.2.1.symm.trans h2.2.2.2.2.2.2.2.2.1
  refine wq_join fun k3 hk3 => ?_
  rw [if_pos hL, hk3]
  dsimp only
  refine wq_for (fun (K : jS → jS → Int32 → Int32 → Option (jR (jS × jS))) i (b : jS × jS × Int32) => K b.1 b.2.1 b.2.2 i) 8 (fun i b => InvL b.1 L SM ∧ InvL b.2.1 L2 SM ∧ b.2.2 = 1) (fun rec i b hi hb ih => ?_) (fun rec b hb => ?_) 8 0 40 (S, T, 1) (by omega) (by omega) ⟨h, h2, rfl⟩
  · obtain ⟨S6, T7, x8⟩ := b
    obtain ⟨a, c, hx⟩ := hb
    dsimp only at a c hx ⊢
    subst hx
    refine wq_join fun k10 _ => ?_
    have e8 : ((8 : Int32) ≤ Int32.ofNat i) = (8 ≤ i) := n32_le (n := 8) (by omega) (by omega)
    rw [if_neg (fun h9 => absurd (Eq.mp e8 h9) (by omega)), if_neg (by decide)]
    obtain ⟨n, _, n1, n2⟩ := e_rules a (show i ≤ 7 by omega)
    obtain ⟨m, _, m1, m2⟩ := e_rules c (show i ≤ 7 by omega)
    rw [n2, jbin0_s, m2, jbin0_s]
    refine wq_join fun k13 hk13 => wq_join fun k14 _ => ?_
    rw [if_pos (n1.symm.trans m1)]
    obtain ⟨S16, v1, a1⟩ := e_view a (show i ≤ 19 by omega) (show i ≤ 7 by omega)
    obtain ⟨T16, v2, c1⟩ := e_view c (show i ≤ 19 by omega) (show i ≤ 7 by omega)
    rw [v1, jbin0_s, v2, jbin0_s, if_pos rfl, e_held a1 (show i ≤ 19 by omega) (show i ≤ 7 by omega), jbin0_s, e_held c1 (show i ≤ 19 by omega) (show i ≤ 7 by omega), jbin0_s, if_pos rfl]
    obtain ⟨k1, _, s1, s2⟩ := e_shown a1 (show i ≤ 19 by omega) (show i ≤ 7 by omega)
    obtain ⟨k2, _, s3, s4⟩ := e_shown c1 (show i ≤ 19 by omega) (show i ≤ 7 by omega)
    rw [s2, jbin0_s, s4, jbin0_s, if_pos (s1.symm.trans s3), hk13]
    dsimp only
    rw [n32_succ]
    exact wq_let (ih (S16, T16, 1) ⟨a1, c1, rfl⟩)
  · obtain ⟨S6, T7, x8⟩ := b
    obtain ⟨a, c, hx⟩ := hb
    dsimp only at a c hx ⊢
    subst hx
    refine wq_join fun k10 hk10 => ?_
    rw [if_pos (by decide), hk10]
    dsimp only
    refine wq_for (fun (K : jS → jS → Int32 → Int32 → Option (jR (jS × jS))) i (b : jS × jS × Int32) => K b.1 b.2.1 b.2.2 i) 6 (fun i b => InvL b.1 L SM ∧ InvL b.2.1 L2 SM ∧ b.2.2 = 1) (fun rec i b hi hb ih => ?_) (fun rec b hb => ?_) 6 0 40 (S6, T7, 1) (by omega) (by omega) ⟨a, c, rfl⟩
    · obtain ⟨S52, T53, x54⟩ := b
      obtain ⟨a, c, hx⟩ := hb
      dsimp only at a c hx ⊢
      subst hx
      refine wq_join fun k56 _ => ?_
      have e6 : ((6 : Int32) ≤ Int32.ofNat i) = (6 ≤ i) := n32_le (n := 6) (by omega) (by omega)
      rw [if_neg (fun h9 => absurd (Eq.mp e6 h9) (by omega)), if_neg (by decide)]
      obtain ⟨p, hp, ep⟩ := low20 (x := v >>> (((2 : Int32) * Int32.ofNat i) &&& 31))
      rw [ep, jbin0_s]
      obtain ⟨S59, f1, a1⟩ := e_fault a (show i ≤ 5 by omega)
      obtain ⟨T59, f2, c1⟩ := e_fault c (show i ≤ 5 by omega)
      rw [f1, jbin0_s, f2, jbin0_s]
      refine wq_join fun k62 hk62 => wq_join fun k63 _ => ?_
      rw [if_pos rfl]
      obtain ⟨G, g1, g2⟩ := e_isIn a1 (show i ≤ 5 by omega) (show p ≤ 19 by omega)
      obtain ⟨G2, g3, g4⟩ := e_isIn c1 (show i ≤ 5 by omega) (show p ≤ 19 by omega)
      cases g1.symm.trans g3
      obtain ⟨k1, _, s1, s2⟩ := e_kept a1 (show i ≤ 5 by omega) (show p ≤ 19 by omega)
      obtain ⟨k2, _, s3, s4⟩ := e_kept c1 (show i ≤ 5 by omega) (show p ≤ 19 by omega)
      obtain ⟨m1, hm1, r1, r2⟩ := e_arm a1 (show i ≤ 5 by omega) (show p ≤ 19 by omega)
      obtain ⟨m2, hm2, r3, r4⟩ := e_arm c1 (show i ≤ 5 by omega) (show p ≤ 19 by omega)
      have hr : Int32.ofNat m1 = Int32.ofNat m2 := by
        have := congrArg (fun o : Option (jR Unit) => o.map fun r => r.2.1) (r1.symm.trans r3)
        exact Option.some.inj this
      rw [g2, jbin0_s, g4, jbin0_s, if_pos rfl, s2, jbin0_s, s4, jbin0_s, if_pos (by rw [s1.symm.trans s3]), r2, jbin0_s, r4, jbin0_s, if_pos hr, hk62]
      dsimp only
      rw [n32_succ]
      exact wq_let (ih (S59, T59, 1) ⟨a1, c1, rfl⟩)
    · obtain ⟨S52, T53, x54⟩ := b
      obtain ⟨a, c, hx⟩ := hb
      dsimp only at a c hx ⊢
      subst hx
      refine wq_join fun k56 hk56 => ?_
      rw [if_pos (by decide), hk56]
      exact wq_chk (by decide) ⟨rfl, rfl, a, c⟩
/-! flags and trials -/
theorem nn0 {k : Nat} (h : k ≤ 100000) : (0 : Int32) ≤ Int32.ofNat k := (rg_le (n := 100000) h (by omega)).1
theorem nn1 {k : Nat} (h : k ≤ 100000) : (-1 : Int32) < Int32.ofNat k := Int32.lt_of_lt_of_le (by decide) (nn0 h)
theorem all20 {V : Nat → Int32} : ∀ N, (∀ p, p < N → ∃ k, k ≤ 3 ∧ V p = Int32.ofNat k) → cntB (fun p => decide (V p = Int32.ofNat 0)) N + cntB (fun p => decide (V p = Int32.ofNat 1)) N + cntB (fun p => decide (V p = Int32.ofNat 2)) N + cntB (fun p => decide (V p = Int32.ofNat 3)) N = N
  | 0, _ => rfl
  | N + 1, h => by
    have ih := all20 N (fun p hp => h p (by omega))
    obtain ⟨k, hk, ek⟩ := h N (by omega)
    have hs : ∀ v, cntB (fun p => decide (V p = Int32.ofNat v)) (N + 1) = cntB (fun p => decide (V p = Int32.ofNat v)) N + if decide (V N = Int32.ofNat v) = true then 1 else 0 := fun v => rfl
    have hd : ∀ v, v ≤ 3 → (if decide (V N = Int32.ofNat v) = true then 1 else 0) = if k = v then 1 else 0 := fun v hv => by
      rw [ek]
      by_cases hkv : k = v
      · rw [hkv, if_pos rfl, if_pos (by simp)]
      · rw [if_neg hkv, if_neg (fun h9 => hkv (n32_inj (by omega) (by omega) (of_decide_eq_true h9)))]
    rw [hs, hs, hs, hs, hd 0 (by omega), hd 1 (by omega), hd 2 (by omega), hd 3 (by omega)]
    generalize cntB (fun p => decide (V p = Int32.ofNat 0)) N = a0 at ih ⊢
    generalize cntB (fun p => decide (V p = Int32.ofNat 1)) N = a1 at ih ⊢
    generalize cntB (fun p => decide (V p = Int32.ofNat 2)) N = a2 at ih ⊢
    generalize cntB (fun p => decide (V p = Int32.ofNat 3)) N = a3 at ih ⊢
    have : k = 0 ∨ k = 1 ∨ k = 2 ∨ k = 3 := by omega
    rcases this with rfl | rfl | rfl | rfl <;> simp <;> omega
def csum (V : Nat → Int32) : Nat → Nat
  | 0 => 0
  | i + 1 => csum V i + cntB (fun p => decide (V p = Int32.ofNat i)) 20
theorem csum_le {V : Nat → Int32} : ∀ i, csum V i ≤ 20 * i
  | 0 => Nat.le_refl _
  | i + 1 => by
    have ih := csum_le (V := V) i
    have := cntB_le9 (q := fun p => decide (V p = Int32.ofNat i)) (n := 20)
    show csum V i + _ ≤ _
    omega
theorem csum4 {V : Nat → Int32} : csum V 4 = cntB (fun p => decide (V p = Int32.ofNat 0)) 20 + cntB (fun p => decide (V p = Int32.ofNat 1)) 20 + cntB (fun p => decide (V p = Int32.ofNat 2)) 20 + cntB (fun p => decide (V p = Int32.ofNat 3)) 20 := by
  show 0 + _ + _ + _ + _ = _
  rw [Nat.zero_add]
theorem w_flag {S SM : jS} {L : jLg} (h : InvL S L SM) {f : Nat} (hf : f ≤ 7) : ∃ S1, f_L_isFlagSo S L (Int32.ofNat f) = some (0, 1, S1) ∧ InvL S1 L SM := by
  suffices hw : wq (f_L_isFlagSo S L (Int32.ofNat f)) (fun t v9 S1 => t = 0 ∧ v9 = 1 ∧ InvL S1 L SM) by
    obtain ⟨t, v9, S1, e, rfl, rfl, a⟩ := wq_ex hw
    exact ⟨S1, e, a⟩
  unfold f_L_isFlagSo
  refine wq_for (fun (K : jS → Int32 → Int32 → Option (jR jS)) i (b : jS × Int32) => K b.1 b.2 i) 4 (fun i b => InvL b.1 L SM ∧ b.2 = Int32.ofNat (csum (fun p => vwM SM p f) i)) (fun rec i b hi hb ih => ?_) (fun rec b hb => ?_) 4 0 40 (S, 0) (by omega) (by omega) ⟨h, rfl⟩
  · obtain ⟨S2, x⟩ := b
    obtain ⟨a, hx⟩ := hb
    dsimp only at a hx ⊢
    have e4 : ((4 : Int32) ≤ Int32.ofNat i) = (4 ≤ i) := n32_le (n := 4) (by omega) (by omega)
    rw [if_neg (fun h9 => absurd (Eq.mp e4 h9) (by omega))]
    obtain ⟨S48, er, a1⟩ := e_reach a hf (show i ≤ 3 by omega)
    rw [er, jbin0_s]
    refine wq_let ?_
    rw [n32_succ]
    refine wq_let (ih (S48, _) ⟨a1, ?_⟩)
    dsimp only
    rw [hx, n32_addn]
    rfl
  · obtain ⟨S2, x⟩ := b
    obtain ⟨a, hx⟩ := hb
    dsimp only at a hx ⊢
    have hx20 : x = 20 := by
      rw [hx]
      have e : csum (fun p => vwM SM p f) 4 = 20 := csum4.trans (all20 20 (fun p hp => vwM_rg h hp (by omega)))
      rw [e]
      rfl
    rw [if_pos (by decide)]
    refine wq_for (fun (K : jS → Int32 → Option (jR jS)) i (b : jS) => K b i) 20 (fun i b => InvL b L SM) (fun rec i S6 hi a ih => ?_) (fun rec S6 a => ?_) 20 0 40 S2 (by omega) (by omega) a
    · have e20 : ((20 : Int32) ≤ Int32.ofNat i) = (20 ≤ i) := n32_le (n := 20) (by omega) (by omega)
      rw [if_neg (fun h9 => absurd (Eq.mp e20 h9) (by omega))]
      obtain ⟨S16, ev, a1⟩ := e_view a (show i ≤ 19 by omega) hf
      obtain ⟨r, n, hn, n1, er, hr, hr0⟩ := e_rule a1 (show i ≤ 19 by omega) hf
      obtain ⟨k, hk, _, es⟩ := e_shown a1 (show i ≤ 19 by omega) hf
      obtain ⟨m, hm, em⟩ := vwM_rg h (show i < 20 by omega) (show f < 8 by omega)
      obtain ⟨S22, el, a2⟩ := e_vbl a1 (show i ≤ 19 by omega) hf
      obtain ⟨n9, hn9, n2, n3⟩ := e_rules a2 hf
      have hnn : n9 = n := n32_inj (by omega) (by omega) (n2.symm.trans n1)
      subst hnn
      rw [ev, jbin0_s, er, jbin0_s, es, jbin0_s]
      refine wq_join fun k19 hk19 => wq_join fun k20 _ => ?_
      have e4 : ((4 : Int32) ≤ Int32.ofNat m) = (4 ≤ m) := n32_le (n := 4) (by omega) (by omega)
      have c1 : ¬ vwM SM i f < 0 := by
        rw [em]
        exact Int32.not_lt.mpr (nn0 (by omega))
      have c2 : ¬ (4 : Int32) ≤ vwM SM i f := by
        rw [em]
        exact fun h9 => absurd (Eq.mp e4 h9) (by omega)
      have c3 : ¬ r < -1 := by
        rcases hr with rfl | ⟨j, hj, rfl⟩
        · decide
        · exact Int32.not_lt.mpr (Int32.le_of_lt (nn1 (by omega)))
      have c4 : ¬ Int32.ofNat n9 ≤ r := by
        rcases hr with rfl | ⟨j, hj, rfl⟩
        · exact Int32.not_le.mpr (nn1 (by omega))
        · exact fun h9 => absurd (Eq.mp (n32_le (n := n9) (i := j) (by omega) (by omega)) h9) (by omega)
      have hk9 : Int32.ofNat k - 1 = -1 ∨ ∃ j, j ≤ 3 ∧ Int32.ofNat k - 1 = Int32.ofNat j := by
        rcases Nat.eq_zero_or_pos k with h0 | h0
        · exact Or.inl (by rw [h0]; decide)
        · exact Or.inr ⟨k - 1, by omega, n32_pred h0⟩
      have c5 : ¬ Int32.ofNat k - 1 < -1 := by
        rcases hk9 with e | ⟨j, hj, e⟩
        · rw [e]
          decide
        · rw [e]
          exact Int32.not_lt.mpr (Int32.le_of_lt (nn1 (by omega)))
      have c6 : ¬ (4 : Int32) ≤ Int32.ofNat k - 1 := by
        rcases hk9 with e | ⟨j, hj, e⟩
        · rw [e]
          decide
        · rw [e]
          exact fun h9 => absurd (Eq.mp (n32_le (n := 4) (i := j) (by omega) (by omega)) h9) (by omega)
      rw [if_neg c1, if_neg c2, el, jbin0_s, if_pos rfl, if_neg c3, n3, jbin0_s, if_neg c4, if_neg c5, if_neg c6, hk19]
      refine wq_join fun k32 _ => ?_
      rw [if_neg (by decide)]
      refine wq_join fun k33 hk33 => ?_
      have fin : wq (k33 ()) (fun t v9 S1 => t = 0 ∧ v9 = 1 ∧ InvL S1 L SM) := by
        rw [hk33]
        dsimp only
        rw [n32_succ]
        exact wq_let (ih S22 a2)
      refine wq_ite (fun hr9 => ?_) (fun _ => fin)
      rw [e_held a2 (show i ≤ 19 by omega) hf, jbin0_s]
      by_cases h0 : SM 384 (8 * i + f) = 0
      · rw [if_pos h0, if_pos rfl, if_pos (hr0 hr9 h0)]
        exact fin
      · rw [if_neg h0, if_neg (by decide)]
        exact fin
    · rw [if_pos (by decide)]
      refine wq_join fun k8 hk8 => wq_join fun k9 _ => ?_
      obtain ⟨n9, hn9, n2, n3⟩ := e_rules a hf
      have c5 : ¬ (5 : Int32) < Int32.ofNat n9 := fun h9 => absurd (Eq.mp (n32_lt' (n := 5) (i := n9) (by omega) (by omega)) h9) (by omega)
      rw [if_pos hx20, n3, jbin0_s, if_neg c5, hk8]
      exact wq_chk (by decide) ⟨rfl, rfl, a⟩
theorem w_trial {S SM : jS} {L : jLg} (h : InvL S L SM) {t : Nat} (ht : t ≤ 5) : f_L_isTrialSo S (Int32.ofNat t) = some (0, 1, ()) := by
  suffices hw : wq (f_L_isTrialSo S (Int32.ofNat t)) (fun t v9 _ => t = 0 ∧ v9 = 1) by
    obtain ⟨t, v9, S1, e, rfl, rfl⟩ := wq_ex hw
    exact e
  unfold f_L_isTrialSo
  refine wq_for (fun (K : Int32 → Option (jR Unit)) i (b : Unit) => K i) 20 (fun i b => True) (fun rec i b hi _ ih => ?_) (fun rec b _ => ?_) 20 0 40 () (by omega) (by omega) trivial
  · have e20 : ((20 : Int32) ≤ Int32.ofNat i) = (20 ≤ i) := n32_le (n := 20) (by omega) (by omega)
    rw [if_neg (fun h9 => absurd (Eq.mp e20 h9) (by omega))]
    obtain ⟨m, hm, _, em⟩ := e_arm h ht (show i ≤ 19 by omega)
    obtain ⟨k, hk, _, ek⟩ := e_kept h ht (show i ≤ 19 by omega)
    rw [em, jbin0_s, ek, jbin0_s]
    refine wq_join fun k5 _ => ?_
    have hk9 : Int32.ofNat k - 1 = -1 ∨ ∃ j, j ≤ 3 ∧ Int32.ofNat k - 1 = Int32.ofNat j := by
      rcases Nat.eq_zero_or_pos k with h0 | h0
      · exact Or.inl (by rw [h0]; decide)
      · exact Or.inr ⟨k - 1, by omega, n32_pred h0⟩
    have c5 : ¬ Int32.ofNat k - 1 < -1 := by
      rcases hk9 with e | ⟨j, hj, e⟩
      · rw [e]
        decide
      · rw [e]
        exact Int32.not_lt.mpr (Int32.le_of_lt (nn1 (by omega)))
    have c6 : Int32.ofNat k - 1 ≤ (3 : Int32) := by
      rcases hk9 with e | ⟨j, hj, e⟩
      · rw [e]
        decide
      · rw [e]
        exact (rg_le (n := 3) hj (by omega)).2
    have c7 : ¬ (3 : Int32) < Int32.ofNat m := Int32.not_lt.mpr (rg_le (n := 3) hm (by omega)).2
    rw [if_neg (Int32.not_lt.mpr (nn0 (by omega))), if_neg c7, if_neg c5, if_pos c6]
    refine wq_let ?_
    rw [n32_succ]
    exact ih () trivial
  · rw [if_pos (by decide)]
    exact wq_chk (by decide) ⟨rfl, rfl⟩
end ALK
