section MVD
theorem lg_cmp0 {x y : Int64} : lg_cmp x y = 0 ↔ x = y := by
  unfold lg_cmp
  by_cases h1 : x = y
  · simp [h1]
  · by_cases h2 : y < x <;> simp [h1, h2]
/-- the views of the first n, packed -/
def pk (V : Nat → Nat → Int32) : Nat → Int64
  | 0 => 0
  | i + 1 => pk V i ||| ((V (i / 8) (i % 8)).toInt64 <<< ((((2 : Int32) * Int32.ofNat i)).toInt64 &&& 63))
/-- a person's views -/
def sl (x : Int64) (p : Nat) : Int64 := (x >>> ((((16 : Int32) * Int32.ofNat p)).toInt64 &&& 63)) &&& (65535 : Int64)
theorem sl_or {x y : Int64} {p : Nat} : sl (x ||| y) p = sl x p ||| sl y p := by
  unfold sl
  apply Int64.toBitVec_inj.mp
  simp only [Int64.toBitVec_and, Int64.toBitVec_or, Int64.toBitVec_shiftRight, BitVec.sshiftRight', BitVec.sshiftRight_or_distrib]
  refine BitVec.eq_of_getLsbD_eq fun i hi => ?_
  simp only [BitVec.getLsbD_and, BitVec.getLsbD_or]
  rw [Bool.and_or_distrib_right]
theorem sl_0 : ∀ i, i < 31 → ∀ p, p < 4 → ∀ v, v < 4 → i / 8 ≠ p → sl ((Int32.ofNat v).toInt64 <<< ((((2 : Int32) * Int32.ofNat i)).toInt64 &&& 63)) p = 0 := by decide +kernel
theorem pk_sl {V W : Nat → Nat → Int32} {p : Nat} (hp : p < 4) (hV : ∀ q, q < 20 → ∀ f, f < 8 → ∃ k, k ≤ 3 ∧ V q f = Int32.ofNat k) (hW : ∀ q, q < 20 → ∀ f, f < 8 → ∃ k, k ≤ 3 ∧ W q f = Int32.ofNat k) (h : ∀ f, f < 8 → V p f = W p f) : ∀ n, n ≤ 31 → sl (pk V n) p = sl (pk W n) p
  | 0, _ => rfl
  | n + 1, hn => by
    have ih := pk_sl hp hV hW h n (by omega)
    show sl (pk V n ||| _) p = sl (pk W n ||| _) p
    rw [sl_or, sl_or, ih]
    by_cases hnp : n / 8 = p
    · rw [hnp, h (n % 8) (by omega)]
    · obtain ⟨k, hk, ek⟩ := hV (n / 8) (by omega) (n % 8) (by omega)
      obtain ⟨m, hm, em⟩ := hW (n / 8) (by omega) (n % 8) (by omega)
      rw [ek, em, sl_0 n (by omega) p hp k (by omega) hnp, sl_0 n (by omega) p hp m (by omega) hnp]
theorem cntB_up {q : Nat → Bool} {n : Nat} : ∀ k, cntB q n ≤ cntB q (n + k)
  | 0 => Nat.le_refl _
  | k + 1 => Nat.le_trans (cntB_up k) (by
    show cntB q (n + k) ≤ cntB q (n + k) + _
    omega)
theorem cntB_no {q : Nat → Bool} : ∀ n, (∀ k, k < n → q k = false) → cntB q n = 0
  | 0, _ => rfl
  | n + 1, h => by
    show cntB q n + _ = 0
    rw [cntB_no n (fun k hk => h k (by omega)), if_neg (by rw [h n (by omega)]; decide)]
theorem div8 {i : Nat} (hi : i ≤ 1000) : Int32.ofNat i / (8 : Int32) = Int32.ofNat (i / 8) := n32_div (x := i) (c := 8) (by omega) (by omega)
theorem mod8 {i : Nat} (hi : i ≤ 1000) : Int32.ofNat i - Int32.ofNat i / (8 : Int32) * (8 : Int32) = Int32.ofNat (i % 8) := n32_mod (x := i) (c := 8) (by omega) (by omega) (by omega)
theorem e_wm {S S9 : jS} {L : jLg} {v p : Int32} (e : f_X10_wouldMove S p = some (0, v, S9)) : f_L_wouldMove S L p = some (0, v, (S9, L)) := by
  unfold f_L_wouldMove
  rw [e]
  rfl
theorem e_wm2 {S S9 : jS} {L : jLg} {v p : Int32} (e : f_X10_wouldMove S p = some (2, v, S9)) : f_L_wouldMove S L p = some (0, -99999, (S9, L)) := by
  unfold f_L_wouldMove
  rw [e]
  rfl
theorem e_st2 {S S9 : jS} {L : jLg} {v p : Int32} (e : f_X10_set S p = some (2, v, S9)) : f_L_set S L p = some (0, -99999, (S9, L)) := by
  unfold f_L_set
  rw [e]
  rfl
theorem w_moved {S SM : jS} {L : jLg} (h : InvL S L SM) {a : Nat} (ha : a ≤ 5) : ∃ S1 SM1, f_L_isMovedSo S L (Int32.ofNat a) = some (0, 1, (S1, L)) ∧ InvL S1 L SM1 := by
  suffices hw : wq (f_L_isMovedSo S L (Int32.ofNat a)) (fun t v9 S1 => t = 0 ∧ v9 = 1 ∧ S1.2 = L ∧ ∃ SM1, InvL S1.1 L SM1) by
    obtain ⟨t, v9, S1, e, rfl, rfl, e2, SM1, hI⟩ := wq_ex hw
    exact ⟨S1.1, SM1, by rw [e, ← e2], hI⟩
  unfold f_L_isMovedSo
  rcases can_or h ha with ⟨SM6, hc⟩ | ⟨SM6, hc⟩
  · obtain ⟨S9, em, h9⟩ := move_ok h ha hc
    have hCN := cntB_le9 (q := fun p => anyB (fun f => decide (vwM SM p f ≠ vwM (jset SM6 358 0 0) p f)) 8) (n := 20)
    have hC4 : cntB (fun p => anyB (fun f => decide (vwM SM p f ≠ vwM (jset SM6 358 0 0) p f)) 8) 4 ≤ cntB (fun p => anyB (fun f => decide (vwM SM p f ≠ vwM (jset SM6 358 0 0) p f)) 8) 20 := cntB_up 16
    rw [e_wm em, jbin0_s, if_pos (nn0 (by omega))]
    dsimp only
    refine wq_for (fun (K : jS → Int64 → Int32 → Option (jR jSL)) i (b : jS × Int64) => K b.1 b.2 i) 31 (fun i b => InvL b.1 L SM ∧ b.2 = pk (vwM SM) i) (fun rec i b hi hb ih => ?_) (fun rec b hb => ?_) 31 0 40 (S9, 0) (by omega) (by omega) ⟨h9, rfl⟩
    · obtain ⟨S5, x⟩ := b
      obtain ⟨a1, hx⟩ := hb
      dsimp only at a1 hx ⊢
      have e31 : ((31 : Int32) ≤ Int32.ofNat i) = (31 ≤ i) := n32_le (n := 31) (by omega) (by omega)
      obtain ⟨S40, ev, a2⟩ := e_view a1 (show i / 8 ≤ 19 by omega) (show i % 8 ≤ 7 by omega)
      rw [if_neg (fun h9 => absurd (Eq.mp e31 h9) (by omega)), mod8 (by omega), div8 (by omega), ev, jbin0_s]
      refine wq_let ?_
      rw [n32_succ]
      refine wq_let (ih (S40, _) ⟨a2, ?_⟩)
      dsimp only
      rw [hx]
      rfl
    · obtain ⟨S5, x⟩ := b
      obtain ⟨a1, hx⟩ := hb
      dsimp only at a1 hx ⊢
      obtain ⟨n, c, w, S7, M, es, hI7, e30, b30, b31, hl, hD7, hb7⟩ := set_ok a1 ha frM_r hc
      have hv8 : ∃ k, k ≤ 20 ∧ pc (S5 30 a ^^^ M) = Int32.ofNat k := ⟨_, cntB_le9, pc_cnt (bits_xor b30 b31)⟩
      obtain ⟨k8, hk8, ek8⟩ := hv8
      rw [if_pos (by decide), es, jbin0_s, ek8]
      refine wq_for (fun (K : jS → Int64 → Int32 → Option (jR jSL)) i (b : jS × Int64) => K b.1 b.2 i) 31 (fun i b => InvL b.1 L (jset SM6 358 0 0) ∧ b.2 = pk (vwM (jset SM6 358 0 0)) i) (fun rec i b hi hb ih => ?_) (fun rec b hb => ?_) 31 0 40 (S7, 0) (by omega) (by omega) ⟨hI7, rfl⟩
      · obtain ⟨S5, x⟩ := b
        obtain ⟨a1, hx⟩ := hb
        dsimp only at a1 hx ⊢
        have e31 : ((31 : Int32) ≤ Int32.ofNat i) = (31 ≤ i) := n32_le (n := 31) (by omega) (by omega)
        obtain ⟨S40, ev, a2⟩ := e_view a1 (show i / 8 ≤ 19 by omega) (show i % 8 ≤ 7 by omega)
        rw [if_neg (fun h9 => absurd (Eq.mp e31 h9) (by omega)), mod8 (by omega), div8 (by omega), ev, jbin0_s]
        refine wq_let ?_
        rw [n32_succ]
        refine wq_let (ih (S40, _) ⟨a2, ?_⟩)
        dsimp only
        rw [hx]
        rfl
      · obtain ⟨S11, y⟩ := b
        obtain ⟨a2, hy⟩ := hb
        dsimp only at a2 hy ⊢
        rw [if_pos (by decide)]
        refine wq_for (fun (K : Int32 → Int32 → Option (jR jSL)) i (b : Int32) => K b i) 4 (fun i b => ∃ m, m ≤ cntB (fun p => anyB (fun f => decide (vwM SM p f ≠ vwM (jset SM6 358 0 0) p f)) 8) i ∧ b = Int32.ofNat m) (fun rec i b hi hb ih => ?_) (fun rec b hb => ?_) 4 0 40 0 (by omega) (by omega) ⟨0, Nat.zero_le _, rfl⟩
        · obtain ⟨m, hm, hbm⟩ := hb
          have e4 : ((4 : Int32) ≤ Int32.ofNat i) = (4 ≤ i) := n32_le (n := 4) (by omega) (by omega)
          have hs : cntB (fun p => anyB (fun f => decide (vwM SM p f ≠ vwM (jset SM6 358 0 0) p f)) 8) (i + 1) = cntB (fun p => anyB (fun f => decide (vwM SM p f ≠ vwM (jset SM6 358 0 0) p f)) 8) i + if anyB (fun f => decide (vwM SM i f ≠ vwM (jset SM6 358 0 0) i f)) 8 = true then 1 else 0 := rfl
          have hi9 := cntB_le9 (q := fun p => anyB (fun f => decide (vwM SM p f ≠ vwM (jset SM6 358 0 0) p f)) 8) (n := i)
          rw [if_neg (fun h9 => absurd (Eq.mp e4 h9) (by omega))]
          refine wq_join fun k27 hk27 => wq_ite (fun hz => ?_) (fun hz => ?_)
          · rw [hk27]
            refine wq_let ?_
            rw [n32_succ]
            refine wq_let (ih _ ⟨m, by rw [hs]; omega, ?_⟩)
            rw [hbm, Int32.add_zero]
          · rw [hk27]
            refine wq_let ?_
            rw [n32_succ]
            refine wq_let (ih _ ⟨m + 1, ?_, ?_⟩)
            · cases hd : anyB (fun f => decide (vwM SM i f ≠ vwM (jset SM6 358 0 0) i f)) 8
              · refine absurd (lg_cmp0.mpr ?_) hz
                have hq : ∀ f, f < 8 → vwM SM i f = vwM (jset SM6 358 0 0) i f := fun f hf => by
                  by_cases hne : vwM SM i f = vwM (jset SM6 358 0 0) i f
                  · exact hne
                  · have := (anyB_iff (q := fun f => decide (vwM SM i f ≠ vwM (jset SM6 358 0 0) i f)) 8).mpr ⟨f, hf, decide_eq_true hne⟩
                    rw [hd] at this
                    cases this
                rw [hx, hy]
                exact pk_sl (p := i) hi (fun q hq f hf => vwM_rg a1 hq hf) (fun q hq f hf => vwM_rg hI7 hq hf) hq 31 (by omega)
              · rw [hs, hd, if_pos rfl]
                omega
            · rw [hbm, n32_succ]
        · obtain ⟨m, hm, hbm⟩ := hb
          subst hbm
          rw [if_pos (by decide)]
          refine wq_join fun k17 _ => ?_
          have c1 : ¬ Int32.ofNat (cntB (fun p => anyB (fun f => decide (vwM SM p f ≠ vwM (jset SM6 358 0 0) p f)) 8) 20) < Int32.ofNat m := fun h9 => absurd (Eq.mp (n32_lt' (by omega) (by omega)) h9) (by omega)
          have c2 : ¬ (20 : Int32) < Int32.ofNat (cntB (fun p => anyB (fun f => decide (vwM SM p f ≠ vwM (jset SM6 358 0 0) p f)) 8) 20) := fun h9 => absurd (Eq.mp (n32_lt' (n := 20) (by omega) (by omega)) h9) (by omega)
          have c3 : ¬ Int32.ofNat k8 < 0 := Int32.not_lt.mpr (nn0 (by omega))
          have c4 : ¬ (20 : Int32) < Int32.ofNat k8 := fun h9 => absurd (Eq.mp (n32_lt' (n := 20) (by omega) (by omega)) h9) (by omega)
          obtain ⟨SM7, e7, hs7⟩ := set_again hI7 ha hl hD7 hb7
          obtain ⟨S19, es2, hA, hB⟩ := hs7 S11 L a2
          obtain ⟨S21, em2, hJ⟩ := move_ok hA ha e7
          have hz : cntB (fun p => anyB (fun f => decide (vwM (jset SM6 358 0 0) p f ≠ vwM (jset SM7 358 0 0) p f)) 8) 20 = 0 := cntB_no 20 fun p hp => by
            cases hd : anyB (fun f => decide (vwM (jset SM6 358 0 0) p f ≠ vwM (jset SM7 358 0 0) p f)) 8
            · rfl
            · obtain ⟨f, hf, hf2⟩ := (anyB_iff (q := fun f => decide (vwM (jset SM6 358 0 0) p f ≠ vwM (jset SM7 358 0 0) p f)) 8).mp hd
              exact absurd (vw_same hA hB hp hf) (of_decide_eq_true hf2)
          rw [hz] at em2
          rw [if_neg c1, if_neg c2, if_neg c3, if_neg c4, es2, jbin0_s, if_pos rfl, em2, jbin0_s, if_pos (show Int32.ofNat 0 = 0 from rfl)]
          exact wq_chk (by decide) ⟨rfl, rfl, rfl, _, hJ⟩
  · obtain ⟨S1, _, em, h1⟩ := set_no h ha hc
    obtain ⟨S2, es, _, h2⟩ := set_no h1 ha hc
    rw [e_wm2 em, jbin0_s, if_neg (by decide)]
    dsimp only
    rw [e_st2 es, jbin0_s, if_pos rfl]
    exact wq_chk (by decide) ⟨rfl, rfl, rfl, _, h2⟩
end MVD
