section VW2
def vwM (SM : jS) (p f : Nat) : Int32 := match f_X11_findViews SM with
  | some (_, _, S1) => S1 376 (8 * p + f)
  | none => 0
/-- what both find as views -/
theorem inv_views {S SM : jS} {L : jLg} (h : InvL S L SM) :
    (∀ p, p < 20 → ∃ S1, f_X10_findViews S 80 (Int32.ofNat p) 30 (82 + 12 * p) = some (0, 0, S1) ∧ (∀ q, q ≠ 80 → S1 q = S q) ∧ ∀ f, f < 8 → S1 80 f = vwM SM p f) ∧
    (∃ SM1, f_X11_findViews SM = some (0, 0, SM1) ∧ frM SM1 SM ∧ SM1 358 0 = SM 358 0 ∧ (∀ p, p < 20 → ∀ f, f < 8 → SM1 376 (8 * p + f) = vwM SM p f) ∧ ∀ a, a < 6 → SM1 367 a = S 30 a) ∧
    ∀ p, p < 20 → ∀ f, f < 8 → ∃ D, f_X10_decidedView S (Int32.ofNat p) (Int32.ofNat f) 30 (82 + 12 * p) = some (0, D, ()) ∧ vwM SM p f = stepV (SM 384 (8 * p + f)) (SM 385 (8 * p + f)) (SM 375 f) D (vwM SM p) := by
  obtain ⟨G, eg, hfG, hmG⟩ := inv_gather h
  have hI := inv_fr h frX_r (frG_M hfG)
  obtain ⟨hT, pos, hO, hpos⟩ := h.2.2.2.2.1
  have hD : ∀ p, p < 20 → ∀ f, f < 8 → f_X10_decidedView S (Int32.ofNat p) (Int32.ofNat f) 30 (82 + 12 * p) = some (0, vv (f_X10_decidedView S (Int32.ofNat p) (Int32.ofNat f) 30 (82 + 12 * p)), ()) := fun p hp f hf => by
    obtain ⟨D, eD, _⟩ := dv_eq (S := S) (SM := G) (p := p) (f := f) (a3 := 30) (b4 := 82 + 12 * p) hI.2.2.2.1 hI.2.2.2.2.2.1 (hI.2.2.2.2.2.2.1 p hp).1 hmG hp hf
    rw [eD]
    rfl
  have hc := fun p (hp : p < 20) => f_findViews (S := S) (a1 := 80) (a3 := 30) (b4 := 82 + 12 * p) (p := p) (pos := pos) (D := fun f => vv (f_X10_decidedView S (Int32.ofNat p) (Int32.ofNat f) 30 (82 + 12 * p))) (Or.inl rfl) (by omega) (by omega) hO (fun f hf => (hT f hf).2) hpos (hD p hp)
  have hV : ∃ V : Nat → Nat → Int32, ∀ p, p < 20 → ∃ S1, f_X10_findViews S 80 (Int32.ofNat p) 30 (82 + 12 * p) = some (0, 0, S1) ∧ (∀ q, q ≠ 80 → S1 q = S q) ∧ (∀ f, f < 8 → S1 80 f = stepV (S (82 + 12 * p + 10) f) (S (82 + 12 * p + 11) f) (S 63 f) (vv (f_X10_decidedView S (Int32.ofNat p) (Int32.ofNat f) 30 (82 + 12 * p))) (S1 80)) ∧ ∀ f, S1 80 f = V p f :=
    ⟨fun p f => match f_X10_findViews S 80 (Int32.ofNat p) 30 (82 + 12 * p) with | some (_, _, S1) => S1 80 f | none => 0, fun p hp => by
      obtain ⟨S1, e, a, b⟩ := hc p hp
      exact ⟨S1, e, a, b, fun f => by dsimp only; rw [e]⟩⟩
  obtain ⟨V, hV⟩ := hV
  have hVf : ∀ p, p < 20 → ∀ f, f < 8 → V p f = stepV (G 384 (8 * p + f)) (G 385 (8 * p + f)) (G 375 f) (vv (f_X10_decidedView S (Int32.ofNat p) (Int32.ofNat f) 30 (82 + 12 * p))) (V p) := fun p hp f hf => by
    obtain ⟨S1, _, _, b, c⟩ := hV p hp
    obtain ⟨_, g2, g3, _⟩ := (hI.2.2.2.2.2.2.1 p hp).2.2 f hf
    rw [← c f, b f hf, g2, g3, (hT f hf).1, hfG 375 f (by omega)]
    exact stepV_c fun o _ _ => c o
  obtain ⟨G1, er, hf1, hV1⟩ := m_rounds (S := S) (G := G) (a3 := 30) (pos := pos) (V := V) hI.2.2.2.1 hI.2.2.2.2.2.1 hI.2.2.2.2.2.2.1 hmG (fun i hi => ⟨(hO.2 i hi).1, fun j hj hb => hpos i hi j hj (by rw [(hT i hi).1, ← hfG 375 i (by omega)]; exact hb)⟩) hVf
  have ef : f_X11_findViews SM = some (0, 0, G1) := by
    unfold f_X11_findViews
    rw [eg, jbin0_s]
    exact er
  have ev9 : ∀ p, p < 20 → ∀ f, f < 8 → vwM SM p f = V p f := fun p hp f hf => by
    unfold vwM
    rw [ef]
    exact hV1 p hp f hf
  refine ⟨fun p hp => ?_, ⟨G1, ef, fun q j hq => by rw [hf1 q (by omega)]; exact hfG q j (by omega), by rw [hf1 358 (by omega)]; exact hfG 358 0 (by omega), fun p hp f hf => (hV1 p hp f hf).trans (ev9 p hp f hf).symm, fun a ha => by rw [hf1 367 (by omega)]; exact hmG a ha⟩, fun p hp f hf => ⟨_, hD p hp f hf, ?_⟩⟩
  · obtain ⟨S1, e, a, _, c⟩ := hV p hp
    exact ⟨S1, e, a, fun f hf => (c f).trans (ev9 p hp f hf).symm⟩
  · rw [ev9 p hp f hf, hVf p hp f hf, hfG 384 _ (by omega), hfG 385 _ (by omega), hfG 375 _ (by omega)]
    exact stepV_c fun o ho _ => (ev9 p hp o ho).symm
theorem fr80 {S S1 : jS} (h : ∀ q, q ≠ 80 → S1 q = S q) : frX S1 S := fun q j hq => by rw [h q (by omega)]
/-- the class's views, whatever else was asked before -/
theorem f_viewNow {S S2 SM : jS} {L : jLg} (h : InvL S L SM) (h2 : ∀ q, q ≠ 80 → S2 q = S q) {p f : Nat} (hp : p ≤ 19) (hf : f ≤ 7) : ∃ S1, f_X10_viewNow S2 (Int32.ofNat p) (Int32.ofNat f) = some (0, vwM SM p f, S1) ∧ (∀ q, q ≠ 80 → S1 q = S q) ∧ ∀ f, f < 8 → S1 80 f = vwM SM p f := by
  obtain ⟨S1, e, a, b⟩ := (inv_views (inv_fr h (fr80 h2) frM_r)).1 p (by omega)
  refine ⟨S1, ?_, fun q hq => (a q hq).trans (h2 q hq), b⟩
  unfold f_X10_viewNow
  rw [chk_t (in20 hp), n32_c (by omega), e, jbin0_s, chk_t (in8 hf), n32_c (by omega), b f (by omega)]
theorem vwM_thr {S SM : jS} {L : jLg} {c : Int32} (h : InvL S L SM) {p f : Nat} (hp : p < 20) (hf : f < 8) : vwM (jset SM 358 0 c) p f = vwM SM p f := by
  obtain ⟨S1, e, _, b⟩ := (inv_views h).1 p hp
  obtain ⟨S2, e2, _, b2⟩ := (inv_views (inv_thr (c := c) h)).1 p hp
  rw [e] at e2
  have : S1 = S2 := by
    have := congrArg (fun o : Option (jR jS) => o.map fun r => r.2.2) e2
    exact Option.some.inj this
  rw [← b2 f hf, ← this]
  exact b f hf
/-- 15: ruleFor -/
theorem ag_15 {S SM : jS} {L : jLg} (h : InvL S L SM) : ∀ p1 p2, AG (f_X10_ruleFor S p1 p2) 1 0 0 (f_X11_ruleFor SM p1 p2) (fun _ SM1 => InvL S L SM1) := fun p1 p2 => by
  by_cases hp : 0 ≤ p1 ∧ p1 ≤ 19
  · by_cases hq : 0 ≤ p2 ∧ p2 ≤ 7
    · obtain ⟨p, hp9, rfl⟩ := n32_rg (n := 19) (by omega) hp
      obtain ⟨f, hf, rfl⟩ := n32_rg (n := 7) (by omega) hq
      obtain ⟨G, eg, hfG, hmG⟩ := inv_gather (inv_thr (c := 0) h)
      have hI := inv_fr (inv_thr (c := 0) h) frX_r (frG_M hfG)
      obtain ⟨n, hn, e1, e2, e3⟩ := hI.2.2.2.1 f (by omega)
      have hq9 : ∃ q : Nat → Bool, ∀ k, k < n → ∃ a, a < 6 ∧ G 373 (5 * f + k) = Int32.ofNat a ∧ q k = bt (G 367 a) p := ⟨fun k => bt (G 367 (G 373 (5 * f + k)).toNatClampNeg) p, fun k hk => by
        obtain ⟨_, _, ⟨a, ha, ea⟩, _⟩ := e3 k (by omega)
        exact ⟨a, ha, ea, by dsimp only; rw [ea, n32_c (by omega)]⟩⟩
      obtain ⟨q, hq9⟩ := hq9
      have er := m_ruleNow (p := p) (show f < 8 by omega) (by omega) hn e2 hq9
      have ed : f_X3_decidingRule S (322 + 3 * f) (Int32.ofNat p) 30 = some (0, dec q n 0, ()) := f_deciding (by omega) hn e1 (fun k hk => by
        obtain ⟨a, ha, ea, eq⟩ := hq9 k hk
        exact ⟨a, ha, by rw [show 322 + 3 * f + 1 = 323 + 3 * f by omega, (e3 k (by omega)).1, ea], by rw [eq, hmG a ha]⟩)
      refine AG_ok (v := dec q n 0) (S1 := ()) (SM1 := G) ?_ ?_ (by rw [hfG 358 0 (by omega), jset_at]) hI
      · unfold f_X10_ruleFor
        rw [f_per_y hp, jbind_s, f_flg_y hq, jbind_s, chk_t (in8 hf), n32_c (by omega), ed, jbin0_s]
      · unfold f_X11_ruleFor joinK
        rw [m_person, jbin0_s, rg_1 hp]
        dsimp only
        rw [if_neg (by decide), m_flag, jbin0_s, rg_1 hq, if_neg (by decide), m_w0, jbin0_s, if_neg (by decide), eg, jbin0_s, er, jbin0_s]
    · refine AG_1 (v := 0) (v2 := 0) (S1 := ()) (SM1 := jset SM 358 0 1) ?_ ?_ jset_at (by decide) (inv_thr h)
      · unfold f_X10_ruleFor
        rw [f_per_y hp, jbind_s, f_flg_n hq, jbind_t]
      · unfold f_X11_ruleFor joinK
        rw [m_person, jbin0_s, rg_1 hp]
        dsimp only
        rw [if_neg (by decide), m_flag, jbin0_s, rg_0 hq, if_pos rfl, m_w1, jbin0_s, if_pos rfl]
  · refine AG_1 (v := 0) (v2 := 0) (S1 := ()) (SM1 := jset SM 358 0 1) ?_ ?_ jset_at (by decide) (inv_thr h)
    · unfold f_X10_ruleFor
      rw [f_per_n hp, jbind_t]
    · unfold f_X11_ruleFor joinK
      rw [m_person, jbin0_s, rg_0 hp]
      dsimp only
      rw [if_pos rfl, m_w1, jbin0_s, if_pos rfl]
theorem m_vbl {S SM : jS} {L : jLg} (h : InvL S L SM) {p f : Nat} (hp : p ≤ 19) (hf : f ≤ 7) : ∃ SM1, f_X11_viewByLog SM (Int32.ofNat p) (Int32.ofNat f) = some (0, vwM SM p f, SM1) ∧ SM1 358 0 = 0 ∧ frM SM1 SM := by
  obtain ⟨G, eg, hfG, hg0, hv, _⟩ := (inv_views (inv_thr (c := 0) h)).2.1
  have hp9 : (0 : Int32) ≤ Int32.ofNat p ∧ Int32.ofNat p ≤ 19 := rg_le (n := 19) hp (by omega)
  have hf9 : (0 : Int32) ≤ Int32.ofNat f ∧ Int32.ofNat f ≤ 7 := rg_le (n := 7) hf (by omega)
  refine ⟨G, ?_, by rw [hg0, jset_at], frM_t hfG frM_thrown⟩
  unfold f_X11_viewByLog joinK
  rw [m_person, jbin0_s, rg_1 hp9]
  dsimp only
  rw [if_neg (by decide), m_flag, jbin0_s, rg_1 hf9, if_neg (by decide), m_w0, jbin0_s, if_neg (by decide), eg, jbin0_s, n32_8, chk_t (n32_inb (by omega) (by omega)), n32_c (by omega), hv p (by omega) f (by omega), vwM_thr h (by omega) (by omega)]
theorem m_vbl_n {SM : jS} {p1 p2 : Int32} (h : ¬ ((0 ≤ p1 ∧ p1 ≤ 19) ∧ (0 ≤ p2 ∧ p2 ≤ 7))) : f_X11_viewByLog SM p1 p2 = some (0, 0, jset SM 358 0 1) := by
  unfold f_X11_viewByLog joinK
  rw [m_person, jbin0_s]
  dsimp only
  by_cases hp : 0 ≤ p1 ∧ p1 ≤ 19
  · rw [rg_1 hp, if_neg (by decide), m_flag, jbin0_s, rg_0 (fun hq => h ⟨hp, hq⟩), if_pos rfl, m_w1, jbin0_s, if_pos rfl]
  · rw [rg_0 hp, if_pos rfl, m_w1, jbin0_s, if_pos rfl]
/-- 13: view -/
theorem ag_13 {S SM : jS} {L : jLg} (h : InvL S L SM) : ∀ p1 p2, AG (f_X10_view S p1 p2) 1 0 0 (f_X11_view SM p1 p2) (fun S1 SM1 => InvL S1 L SM1) := fun p1 p2 => by
  by_cases hall : (0 ≤ p1 ∧ p1 ≤ 19) ∧ (0 ≤ p2 ∧ p2 ≤ 7)
  · obtain ⟨hp, hq⟩ := hall
    obtain ⟨p, hp9, rfl⟩ := n32_rg (n := 19) (by omega) hp
    obtain ⟨f, hf, rfl⟩ := n32_rg (n := 7) (by omega) hq
    obtain ⟨S1, ec, hf1, _⟩ := f_viewNow h (fun _ _ => rfl) hp9 hf
    obtain ⟨SM1, em, h0, hfM⟩ := m_vbl h hp9 hf
    refine AG_ok (v := vwM SM p f) (S1 := S1) (SM1 := SM1) ?_ ?_ h0 (inv_fr h (fr80 hf1) hfM)
    · unfold f_X10_view
      rw [f_per_y hp, jbind_s, f_flg_y hq, jbind_s, ec, jbin0_s]
    · unfold f_X11_view
      rw [em, jbin0_s]
  · refine AG_1 (v := 0) (v2 := 0) (S1 := S) (SM1 := jset SM 358 0 1) ?_ ?_ jset_at (by decide) (inv_thr h)
    · unfold f_X10_view
      by_cases hp : 0 ≤ p1 ∧ p1 ≤ 19
      · rw [f_per_y hp, jbind_s, f_flg_n (fun hq => hall ⟨hp, hq⟩), jbind_t]
      · rw [f_per_n hp, jbind_t]
    · unfold f_X11_view
      rw [m_vbl_n hall, jbin0_s]
/-- 16: reach -/
theorem ag_16 {S SM : jS} {L : jLg} (h : InvL S L SM) : ∀ p1 p2, AG (f_X10_reach S p1 p2) 1 0 0 (f_X11_reach SM p1 p2) (fun S1 SM1 => InvL S1 L SM1) := fun p1 p2 => by
  by_cases hp : 0 ≤ p1 ∧ p1 ≤ 7
  · by_cases hq : 0 ≤ p2 ∧ p2 ≤ 3
    · obtain ⟨f, hf, rfl⟩ := n32_rg (n := 7) (by omega) hp
      obtain ⟨v, hv, rfl⟩ := n32_rg (n := 3) (by omega) hq
      obtain ⟨G, eg, hfG, hg0, hvG, _⟩ := (inv_views (inv_thr (c := 0) h)).2.1
      have hcl : wq (loopK (fun (rec1 : jS → Int32 → Int32 → Option (jR jS)) (S2 : jS) (x3 : Int32) (x4 : Int32) => (if (20 : Int32) ≤ x4 then some (0, x3, S2) else jbin0 (f_X10_viewNow S2 x4 (Int32.ofNat f)) (fun v5 S6 => joinK (fun (x9 : Int32) => letE (x4 + (1 : Int32)) fun x10 => rec1 S6 x9 x10) (fun k7 => (if v5 = Int32.ofNat v then letE (x3 + (1 : Int32)) fun x8 => k7 x8 else k7 x3))))) (fun _ _ _ => none) 1000 S (0 : Int32) (0 : Int32)) (fun t v9 S1 => t = 0 ∧ v9 = Int32.ofNat (cntB (fun p => decide (vwM SM p f = Int32.ofNat v)) 20) ∧ ∀ q, q ≠ 80 → S1 q = S q) := by
        refine wq_for (fun (K : jS → Int32 → Int32 → Option (jR jS)) i (b : jS × Int32) => K b.1 b.2 i) 20 (fun i b => (∀ q, q ≠ 80 → b.1 q = S q) ∧ b.2 = Int32.ofNat (cntB (fun p => decide (vwM SM p f = Int32.ofNat v)) i)) (fun rec i b hi hb ih => ?_) (fun rec b hb => ?_) 20 0 1000 (S, 0) (by omega) (by omega) ⟨fun _ _ => rfl, rfl⟩
        · obtain ⟨S2, x⟩ := b
          obtain ⟨hf2, hx⟩ := hb
          dsimp only at hf2 hx ⊢
          have e : ((20 : Int32) ≤ Int32.ofNat i) = (20 ≤ i) := n32_le (n := 20) (by omega) (by omega)
          obtain ⟨S3, e3, hf3, _⟩ := f_viewNow h hf2 (show i ≤ 19 by omega) hf
          refine wq_ite (fun h => absurd (Eq.mp e h) (by omega)) (fun _ => ?_)
          rw [e3, jbin0_s]
          have hs : cntB (fun p => decide (vwM SM p f = Int32.ofNat v)) (i + 1) = cntB (fun p => decide (vwM SM p f = Int32.ofNat v)) i + if decide (vwM SM i f = Int32.ofNat v) = true then 1 else 0 := rfl
          refine wq_join fun k7 hk7 => wq_ite (fun hvv => ?_) (fun hvv => ?_)
          · rw [hk7]
            refine wq_let ?_
            rw [n32_succ]
            refine wq_let (ih (S3, x + 1) ⟨hf3, ?_⟩)
            dsimp only
            rw [hs, decide_eq_true hvv, if_pos rfl, hx, n32_succ]
          · rw [hk7]
            dsimp only
            rw [n32_succ]
            refine wq_let (ih (S3, x) ⟨hf3, ?_⟩)
            dsimp only
            rw [hs, decide_eq_false hvv, if_neg (by decide), hx]
            rfl
        · exact wq_ite (fun _ => ⟨rfl, hb.2, hb.1⟩) (fun h => absurd (by decide) h)
      obtain ⟨t9, v9, S9, ec, rfl, rfl, hf9⟩ := wq_ex hcl
      refine AG_ok (v := Int32.ofNat (cntB (fun p => decide (vwM SM p f = Int32.ofNat v)) 20)) (S1 := S9) (SM1 := G) ?_ ?_ (by rw [hg0, jset_at]) (inv_fr h (fr80 hf9) (frM_t hfG frM_thrown))
      · unfold f_X10_reach
        rw [f_flg_y hp, jbind_s, f_var_y hq, jbind_s]
        exact ec
      · unfold f_X11_reach joinK
        rw [m_flag, jbin0_s, rg_1 hp]
        dsimp only
        rw [if_neg (by decide), m_variant, jbin0_s, rg_1 hq, if_neg (by decide), m_w0, jbin0_s, if_neg (by decide), eg, jbin0_s]
        suffices hw : wq (loopK (fun (rec12 : Int32 → Int32 → Option (jR jS)) (x13 : Int32) (x14 : Int32) => (if (20 : Int32) ≤ x14 then some (0, x13, G) else chk (inb ((((8 : Int32) * x14) + Int32.ofNat f)) 160) (if (G 376 ((((8 : Int32) * x14) + Int32.ofNat f)).toNatClampNeg) = Int32.ofNat v then letE (x13 + (1 : Int32)) fun x17 => letE (x14 + (1 : Int32)) fun x18 => rec12 x17 x18 else letE (x13 + (0 : Int32)) fun x17 => letE (x14 + (1 : Int32)) fun x18 => rec12 x17 x18))) (fun _ _ => none) 1000 (0 : Int32) (0 : Int32)) (fun t v9 S1 => t = 0 ∧ v9 = Int32.ofNat (cntB (fun p => decide (vwM SM p f = Int32.ofNat v)) 20) ∧ S1 = G) by
          obtain ⟨t9, v9, S9, e, rfl, rfl, rfl⟩ := wq_ex hw
          exact e
        refine wq_for (fun (K : Int32 → Int32 → Option (jR jS)) i (b : Int32) => K b i) 20 (fun i x => x = Int32.ofNat (cntB (fun p => decide (vwM SM p f = Int32.ofNat v)) i)) (fun rec i x hi hx ih => ?_) (fun rec x hx => ?_) 20 0 1000 0 (by omega) (by omega) rfl
        · have e : ((20 : Int32) ≤ Int32.ofNat i) = (20 ≤ i) := n32_le (n := 20) (by omega) (by omega)
          refine wq_ite (fun h => absurd (Eq.mp e h) (by omega)) (fun _ => ?_)
          have hs : cntB (fun p => decide (vwM SM p f = Int32.ofNat v)) (i + 1) = cntB (fun p => decide (vwM SM p f = Int32.ofNat v)) i + if decide (vwM SM i f = Int32.ofNat v) = true then 1 else 0 := rfl
          have eG : G 376 (8 * i + f) = vwM SM i f := by rw [hvG i hi f (by omega), vwM_thr h hi (by omega)]
          rw [n32_8, n32_c (show 8 * i + f ≤ 1000 by omega), n32_succ]
          refine wq_chk (n32_inb (by omega) (by omega)) (wq_ite (fun hvv => wq_let (wq_let (ih _ ?_))) (fun hvv => wq_let (wq_let (ih _ ?_))))
          · rw [eG] at hvv
            rw [hs, decide_eq_true hvv, if_pos rfl, hx, n32_succ]
          · rw [eG] at hvv
            rw [hs, decide_eq_false hvv, if_neg (by decide), hx, Int32.add_zero]
            rfl
        · exact wq_ite (fun _ => ⟨rfl, hx, rfl⟩) (fun h => absurd (by decide) h)
    · refine AG_1 (v := 0) (v2 := 0) (S1 := S) (SM1 := jset SM 358 0 1) ?_ ?_ jset_at (by decide) (inv_thr h)
      · unfold f_X10_reach
        rw [f_flg_y hp, jbind_s, f_var_n hq, jbind_t]
      · unfold f_X11_reach joinK
        rw [m_flag, jbin0_s, rg_1 hp]
        dsimp only
        rw [if_neg (by decide), m_variant, jbin0_s, rg_0 hq, if_pos rfl, m_w1, jbin0_s, if_pos rfl]
  · refine AG_1 (v := 0) (v2 := 0) (S1 := S) (SM1 := jset SM 358 0 1) ?_ ?_ jset_at (by decide) (inv_thr h)
    · unfold f_X10_reach
      rw [f_flg_n hp, jbind_t]
    · unfold f_X11_reach joinK
      rw [m_flag, jbin0_s, rg_0 hp]
      dsimp only
      rw [if_pos rfl, m_w1, jbin0_s, if_pos rfl]
end VW2
