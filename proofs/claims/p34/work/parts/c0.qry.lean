section QRY
theorem r19 {p : Nat} (h : p ≤ 19) : (0 : Int32) ≤ Int32.ofNat p ∧ Int32.ofNat p ≤ 19 := rg_le (n := 19) h (by omega)
theorem r7 {p : Nat} (h : p ≤ 7) : (0 : Int32) ≤ Int32.ofNat p ∧ Int32.ofNat p ≤ 7 := rg_le (n := 7) h (by omega)
theorem r5 {p : Nat} (h : p ≤ 5) : (0 : Int32) ≤ Int32.ofNat p ∧ Int32.ofNat p ≤ 5 := rg_le (n := 5) h (by omega)
theorem r3 {p : Nat} (h : p ≤ 3) : (0 : Int32) ≤ Int32.ofNat p ∧ Int32.ofNat p ≤ 3 := rg_le (n := 3) h (by omega)
theorem frM_s {S S1 : jS} (h : frM S1 S) : frM S S1 := fun q j hq => (h q j hq).symm
theorem inv_X {S S1 SM : jS} {L : jLg} (h : InvL S L SM) (h1 : frX S1 S) : InvL S1 L SM := inv_fr h h1 frM_r
/-! the questions, answered -/
theorem e_rules {S SM : jS} {L : jLg} (h : InvL S L SM) {f : Nat} (hf : f ≤ 7) : ∃ n, n ≤ 5 ∧ SM 372 f = Int32.ofNat n ∧ f_X10_rules S (Int32.ofNat f) = some (0, Int32.ofNat n, ()) := by
  obtain ⟨n, hn, e1, e2, _⟩ := h.2.2.2.1 f (by omega)
  refine ⟨n, hn, e2, ?_⟩
  rw [f_rules, if_pos (r7 hf), n32_c (by omega), e1]
theorem e_view {S SM : jS} {L : jLg} (h : InvL S L SM) {p f : Nat} (hp : p ≤ 19) (hf : f ≤ 7) : ∃ S1, f_X10_view S (Int32.ofNat p) (Int32.ofNat f) = some (0, vwM SM p f, S1) ∧ InvL S1 L SM := by
  obtain ⟨S1, ec, hf1, _⟩ := f_viewNow h (fun _ _ => rfl) hp hf
  refine ⟨S1, ?_, inv_X h (fr80 hf1)⟩
  unfold f_X10_view
  rw [f_per_y (r19 hp), jbind_s, f_flg_y (r7 hf), jbind_s, ec, jbin0_s]
theorem e_vbl {S SM : jS} {L : jLg} (h : InvL S L SM) {p f : Nat} (hp : p ≤ 19) (hf : f ≤ 7) : ∃ S1, f_X10_viewByLog S L (Int32.ofNat p) (Int32.ofNat f) = some (0, vwM SM p f, S1) ∧ InvL S1 L SM := by
  obtain ⟨SM1, em, h0, hfM⟩ := m_vbl h hp hf
  rcases ag_14 h (Int32.ofNat p) (Int32.ofNat f) with ⟨v, S1, SM2, e1, e2, _, hI⟩ | ⟨v, v2, S1, SM2, _, e2, e3, hc, _⟩ | ⟨v, v2, S1, SM2, _, e2, e3, hc, _⟩ | ⟨v, v2, S1, SM2, _, e2, e3, hc, _⟩
  · cases e2.symm.trans em
    exact ⟨S1, e1, inv_fr hI frX_r (frM_s hfM)⟩
  · cases e2.symm.trans em
    exact absurd (e3.symm.trans h0) hc
  · cases e2.symm.trans em
    exact absurd (e3.symm.trans h0) hc
  · cases e2.symm.trans em
    exact absurd (e3.symm.trans h0) hc
theorem e_held {S SM : jS} {L : jLg} (h : InvL S L SM) {p f : Nat} (hp : p ≤ 19) (hf : f ≤ 7) : f_X10_isHeld S (Int32.ofNat p) (Int32.ofNat f) = some (0, (if SM 384 (8 * p + f) = 0 then 0 else 1), ()) := by
  obtain ⟨_, e1, _⟩ := (h.2.2.2.2.2.2.1 p (by omega)).2.2 f (by omega)
  unfold f_X10_isHeld joinK
  rw [f_per_y (r19 hp), jbind_s, f_flg_y (r7 hf), jbind_s, chk_t (in20 hp), chk_t (in8 hf), n32_c (by omega), n32_c (by omega), e1]
  dsimp only
  by_cases hz : SM 384 (8 * p + f) = 0
  · rw [if_pos hz, if_pos hz]
    rfl
  · rw [if_neg hz, if_neg hz]
    rfl
theorem e_shown {S SM : jS} {L : jLg} (h : InvL S L SM) {p f : Nat} (hp : p ≤ 19) (hf : f ≤ 7) : ∃ k, k ≤ 4 ∧ SM 386 (8 * p + f) - 1 = Int32.ofNat k - 1 ∧ f_X10_shownLast S (Int32.ofNat p) (Int32.ofNat f) = some (0, Int32.ofNat k - 1, ()) := by
  obtain ⟨e1, _⟩ := (h.2.2.2.2.2.2.1 p (by omega)).2.2 f (by omega)
  obtain ⟨k, hk, ek⟩ := ((inv_rg h (show p < 20 by omega)).2 f (by omega)).1
  rw [getP_at (show inP 9 f from Or.inr ⟨by omega, by omega, by omega⟩)] at ek
  refine ⟨k, hk, e1.symm.trans ek, ?_⟩
  unfold f_X10_shownLast
  rw [f_per_y (r19 hp), jbind_s, f_flg_y (r7 hf), jbind_s, chk_t (in20 hp), chk_t (in8 hf), n32_c (by omega), n32_c (by omega), ek]
theorem e_kept {S SM : jS} {L : jLg} (h : InvL S L SM) {t p : Nat} (ht : t ≤ 5) (hp : p ≤ 19) : ∃ k, k ≤ 4 ∧ SM 381 (20 * t + p) = Int32.ofNat k ∧ f_X10_kept S (Int32.ofNat t) (Int32.ofNat p) = some (0, Int32.ofNat k - 1, ()) := by
  obtain ⟨k, hk, e1, e2⟩ := (h.2.2.2.2.2.2.1 p (by omega)).1 t (by omega)
  refine ⟨k, hk, e1, ?_⟩
  unfold f_X10_kept
  rw [f_tri_y (r5 ht), jbind_s, f_per_y (r19 hp), jbind_s, chk_t (in20 hp), chk_t (in6 ht), n32_c (by omega), n32_c (by omega), show 82 + 12 * p + 1 = (82 + 12 * p) + 1 from rfl, e2]
theorem e_arm {S SM : jS} {L : jLg} (h : InvL S L SM) {t p : Nat} (ht : t ≤ 5) (hp : p ≤ 19) : ∃ m, m ≤ 3 ∧ f_X11_armNow SM (Int32.ofNat t) (Int32.ofNat p) = some (0, Int32.ofNat m, ()) ∧ f_X10_arm S (Int32.ofNat t) (Int32.ofNat p) = some (0, Int32.ofNat m, ()) := by
  obtain ⟨m, hm, ec, em⟩ := f_armNow h ht hp
  refine ⟨m, hm, em, ?_⟩
  unfold f_X10_arm
  rw [f_tri_y (r5 ht), jbind_s, f_per_y (r19 hp), jbind_s, ec, jbin0_s]
theorem e_isIn {S SM : jS} {L : jLg} (h : InvL S L SM) {a p : Nat} (ha : a ≤ 5) (hp : p ≤ 19) : ∃ G, f_X11_gather SM = some (0, 0, G) ∧ f_X10_isIn S (Int32.ofNat a) (Int32.ofNat p) = some (0, hb (G 367 a) (Int32.ofNat p), ()) := by
  obtain ⟨G, eg, _, hm⟩ := inv_gather h
  refine ⟨G, eg, ?_⟩
  unfold f_X10_isIn
  rw [f_aud_y (r5 ha), jbind_s, f_per_y (r19 hp), jbind_s, chk_t (in6 ha), n32_c (by omega), f_hasBit, jbin0_s, chk_t hb_isb, hm a (by omega)]
theorem e_fault {S SM : jS} {L : jLg} (h : InvL S L SM) {a : Nat} (ha : a ≤ 5) : ∃ S1, f_X10_fault S (Int32.ofNat a) = some (0, vv (f_X11_faultOf SM (Int32.ofNat a)), S1) ∧ InvL S1 L SM := by
  obtain ⟨n, hn, e1, e2, e3⟩ := h.2.1 a (by omega)
  obtain ⟨S1, e4, hS1⟩ := f_findFault (S := S) (b := 37 + 4 * a) (n := n) (c := S (38 + 4 * a)) (by omega) (by omega) ⟨hn, e1⟩ (fun j _ => by rw [show 37 + 4 * a + 1 = 38 + 4 * a by omega])
  refine ⟨S1, ?_, inv_X h (fun q j hq => hS1 q j (by omega))⟩
  unfold f_X10_fault f_X0_faultOf
  rw [f_aud_y (r5 ha), jbind_s, chk_t (in6 ha), n32_c (by omega), e4, jbin0_s, jbin0_s, m_faultOf (n := n) (c := S (38 + 4 * a)) (by omega) hn e2 (fun j hj => (e3 j (by omega)).1.symm)]
  rfl
theorem e_rule {S SM : jS} {L : jLg} (h : InvL S L SM) {p f : Nat} (hp : p ≤ 19) (hf : f ≤ 7) : ∃ r n, n ≤ 5 ∧ SM 372 f = Int32.ofNat n ∧ f_X10_ruleFor S (Int32.ofNat p) (Int32.ofNat f) = some (0, r, ()) ∧ (r = -1 ∨ ∃ m, m < n ∧ r = Int32.ofNat m) ∧ (r = -1 → SM 384 (8 * p + f) = 0 → vwM SM p f = 0) := by
  obtain ⟨n, hn, e1, e2, e3⟩ := h.2.2.2.1 f (by omega)
  have hq9 : ∃ q : Nat → Bool, ∀ k, k < n → ∃ a, a < 6 ∧ SM 373 (5 * f + k) = Int32.ofNat a ∧ q k = bt (S 30 a) p := ⟨fun k => bt (S 30 (SM 373 (5 * f + k)).toNatClampNeg) p, fun k hk => by
    obtain ⟨_, _, ⟨a, ha, ea⟩, _⟩ := e3 k (by omega)
    exact ⟨a, ha, ea, by dsimp only; rw [ea, n32_c (by omega)]⟩⟩
  obtain ⟨q, hq9⟩ := hq9
  have ed : f_X3_decidingRule S (322 + 3 * f) (Int32.ofNat p) 30 = some (0, dec q n 0, ()) := f_deciding (by omega) hn e1 (fun k hk => by
    obtain ⟨a, ha, ea, eq⟩ := hq9 k hk
    exact ⟨a, ha, by rw [show 322 + 3 * f + 1 = 323 + 3 * f by omega, (e3 k (by omega)).1, ea], eq⟩)
  refine ⟨dec q n 0, n, hn, e2, ?_, ?_, fun hr h0 => ?_⟩
  · unfold f_X10_ruleFor
    rw [f_per_y (r19 hp), jbind_s, f_flg_y (r7 hf), jbind_s, chk_t (in8 hf), n32_c (by omega), ed, jbin0_s]
  · rcases dec_rg (q := q) n 0 with h1 | ⟨m, hm, h1⟩
    · exact Or.inl h1
    · exact Or.inr ⟨m, by omega, h1⟩
  · obtain ⟨D, eD, ev⟩ := (inv_views h).2.2 p (by omega) f (by omega)
    unfold f_X10_decidedView at eD
    rw [chk_t (in8 hf), n32_c (by omega), ed, jbin0_s, if_pos hr] at eD
    have hD : (0 : Int32) = D := by
      have := congrArg (fun o : Option (jR Unit) => o.map fun r => r.2.1) eD
      exact Option.some.inj this
    rw [ev, ← hD]
    unfold stepV
    rw [if_pos h0]
    split <;> rfl
theorem e_reach {S SM : jS} {L : jLg} (h : InvL S L SM) {f v : Nat} (hf : f ≤ 7) (hv : v ≤ 3) : ∃ S1, f_X10_reach S (Int32.ofNat f) (Int32.ofNat v) = some (0, Int32.ofNat (cntB (fun p => decide (vwM SM p f = Int32.ofNat v)) 20), S1) ∧ InvL S1 L SM := by
  suffices hw : wq (f_X10_reach S (Int32.ofNat f) (Int32.ofNat v)) (fun t v9 S1 => t = 0 ∧ v9 = Int32.ofNat (cntB (fun p => decide (vwM SM p f = Int32.ofNat v)) 20) ∧ ∀ q, q ≠ 80 → S1 q = S q) by
    obtain ⟨t9, v9, S9, ec, rfl, rfl, hf9⟩ := wq_ex hw
    exact ⟨S9, ec, inv_X h (fr80 hf9)⟩
  unfold f_X10_reach
  rw [f_flg_y (r7 hf), jbind_s, f_var_y (r3 hv), jbind_s]
  refine wq_for (fun (K : jS → Int32 → Int32 → Option (jR jS)) i (b : jS × Int32) => K b.1 b.2 i) 20 (fun i b => (∀ q, q ≠ 80 → b.1 q = S q) ∧ b.2 = Int32.ofNat (cntB (fun p => decide (vwM SM p f = Int32.ofNat v)) i)) (fun rec i b hi hb ih => ?_) (fun rec b hb => ?_) 20 0 1000 (S, 0) (by omega) (by omega) ⟨fun _ _ => rfl, rfl⟩
  · obtain ⟨S2, x⟩ := b
    obtain ⟨hf2, hx⟩ := hb
    dsimp only at hf2 hx ⊢
    have e : ((20 : Int32) ≤ Int32.ofNat i) = (20 ≤ i) := n32_le (n := 20) (by omega) (by omega)
    obtain ⟨S3, e3, hf3, _⟩ := f_viewNow h hf2 (show i ≤ 19 by omega) hf
    refine wq_ite (fun h => absurd (Eq.mp e h) (by omega)) (fun _ => ?_)
    rw [e3, jbin0_s]
    have hs : cntB (fun p => decide (vwM SM p f = Int32.ofNat v)) (i + 1) = cntB (fun p => decide (vwM SM p f = Int32.ofNat v)) i + if decide (vwM SM i f = Int32.ofNat v) = true then 1 else 0 := rfl
    refine wq_join fun k7 hk7 => wq_ite (fun hvv => ?_) (fun hvv => ?_)
    · rw [hk7]
      refine wq_let ?_
      rw [n32_succ]
      refine wq_let (ih (S3, x + 1) ⟨hf3, ?_⟩)
      dsimp only
      rw [hs, decide_eq_true hvv, if_pos rfl, hx, n32_succ]
    · rw [hk7]
      dsimp only
      rw [n32_succ]
      refine wq_let (ih (S3, x) ⟨hf3, ?_⟩)
      dsimp only
      rw [hs, decide_eq_false hvv, if_neg (by decide), hx]
      rfl
  · exact wq_ite (fun _ => ⟨rfl, hb.2, hb.1⟩) (fun h => absurd (by decide) h)
theorem f_low {x : Int32} {n : Nat} (hn : 0 < n) (hn2 : n ≤ 2000) : ∃ k, k < n ∧ f_L_low x (Int32.ofNat n) = some (0, Int32.ofNat k, ()) := by
  have hx : ∃ m : Nat, m < 2147483648 ∧ x &&& (2147483647 : Int32) = Int32.ofNat m := by
    have e1 : (x &&& (2147483647 : Int32)) = Int32.ofNat ((x.toBitVec.toNat) &&& 2147483647) := by
      apply Int32.toBitVec_inj.mp
      apply BitVec.eq_of_toNat_eq
      rw [Int32.toBitVec_and, BitVec.toNat_and, Int32.toBitVec_ofNat', BitVec.toNat_ofNat]
      have h1 : (2147483647 : Int32).toBitVec.toNat = 2147483647 := by decide
      rw [h1]
      have h2 : x.toBitVec.toNat &&& 2147483647 ≤ 2147483647 := Nat.and_le_right
      omega
    refine ⟨_, ?_, e1⟩
    have h2 : x.toBitVec.toNat &&& 2147483647 ≤ 2147483647 := Nat.and_le_right
    omega
  obtain ⟨m, hm, em⟩ := hx
  refine ⟨m % n, Nat.mod_lt _ hn, ?_⟩
  unfold f_L_low
  rw [chk_t (by
    have : ¬ Int32.ofNat n = 0 := fun e => by
      have := n32_inj (a := n) (b := 0) (by omega) (by omega) e
      omega
    simp [this]), em, n32_mod hm hn (by omega)]
end QRY
