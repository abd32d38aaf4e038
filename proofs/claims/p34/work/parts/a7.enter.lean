section ENT
theorem f_concerns {S : jS} {e : Nat → Int32} {p : Int32} : f_X1_concerns S e p = some (0, b2i (decide (e 1 = -1 ∨ e 1 = p)), ()) := by
  unfold f_X1_concerns joinK
  dsimp only
  by_cases h1 : e 1 = -1
  · rw [if_pos h1, decide_eq_true (Or.inl h1)]
    rfl
  · rw [if_neg h1]
    by_cases h2 : e 1 = p
    · rw [if_pos h2, decide_eq_true (Or.inr h2)]
      rfl
    · rw [if_neg h2, decide_eq_false (fun h => h.elim h1 h2)]
      rfl
theorem f_enter {S : jS} {L : jLg} {e : Nat → Int32} (he : EntOk e) (hL : L.length < 400) : ∃ S1, f_X10_enter S L e = some (0, 0, (S1, L ++ [e])) ∧ (∀ p, p < 20 → getP (82 + 12 * p) S1 = if e 1 = -1 ∨ e 1 = Int32.ofNat p then tk e (getP (82 + 12 * p) S) else getP (82 + 12 * p) S) ∧ ∀ q, ¬ (82 ≤ q ∧ q ≤ 321) → S1 q = S q := by
  suffices hw : wq (f_X10_enter S L e) (fun t v S1 => t = 0 ∧ v = 0 ∧ S1.2 = L ++ [e] ∧ (∀ p, p < 20 → getP (82 + 12 * p) S1.1 = if e 1 = -1 ∨ e 1 = Int32.ofNat p then tk e (getP (82 + 12 * p) S) else getP (82 + 12 * p) S) ∧ ∀ q, ¬ (82 ≤ q ∧ q ≤ 321) → S1.1 q = S q) by
    obtain ⟨t, v, S1, e9, rfl, rfl, h1, h2⟩ := wq_ex hw
    refine ⟨S1.1, ?_, h2⟩
    rw [e9, ← h1]
  unfold f_X10_enter
  refine wq_chk (decide_eq_true hL) ?_
  refine wq_for (fun (K : jS → Int32 → Option (jR jSL)) i (b : jS) => K b i) 20 (fun i S4 => (∀ p, p < i → getP (82 + 12 * p) S4 = if e 1 = -1 ∨ e 1 = Int32.ofNat p then tk e (getP (82 + 12 * p) S) else getP (82 + 12 * p) S) ∧ (∀ p, i ≤ p → p < 20 → getP (82 + 12 * p) S4 = getP (82 + 12 * p) S) ∧ ∀ q, ¬ (82 ≤ q ∧ q ≤ 321) → S4 q = S q) (fun rec i S4 hi hP ih => ?_) (fun rec S4 hP => ?_) 20 0 1000 S (by omega) (by omega) ⟨fun p h => absurd h (Nat.not_lt_zero _), fun _ _ _ => rfl, fun _ _ => rfl⟩
  · obtain ⟨h1, h2, h3⟩ := hP
    have e20 : ((20 : Int32) ≤ Int32.ofNat i) = (20 ≤ i) := n32_le (n := 20) (by omega) (by omega)
    refine wq_ite (fun h => absurd (Eq.mp e20 h) (by omega)) (fun _ => ?_)
    rw [f_concerns, jbin0_s]
    refine wq_join fun k7 hk7 => ?_
    have fin : ∀ S5, getP (82 + 12 * i) S5 = (if e 1 = -1 ∨ e 1 = Int32.ofNat i then tk e (getP (82 + 12 * i) S) else getP (82 + 12 * i) S) → (∀ q, (q < 82 + 12 * i + 1 ∨ 82 + 12 * i + 11 < q) → S5 q = S4 q) → wq (k7 S5) (fun t v S1 => t = 0 ∧ v = 0 ∧ S1.2 = L ++ [e] ∧ (∀ p, p < 20 → getP (82 + 12 * p) S1.1 = if e 1 = -1 ∨ e 1 = Int32.ofNat p then tk e (getP (82 + 12 * p) S) else getP (82 + 12 * p) S) ∧ ∀ q, ¬ (82 ≤ q ∧ q ≤ 321) → S1.1 q = S q) := fun S5 a1 a2 => by
      rw [hk7]
      dsimp only
      rw [n32_succ]
      have hoth : ∀ p, p ≠ i → getP (82 + 12 * p) S5 = getP (82 + 12 * p) S4 := fun p hp => getP_c fun r j hr => by
        have := inP_le hr
        rw [a2 (82 + 12 * p + r) (by omega)]
      refine wq_let (ih S5 ⟨fun p hp => ?_, fun p hp hp2 => ?_, fun q hq => ?_⟩)
      · by_cases hpi : p = i
        · rw [hpi]
          exact a1
        · rw [hoth p hpi]
          exact h1 p (by omega)
      · rw [hoth p (by omega)]
        exact h2 p (by omega) hp2
      · rw [a2 q (by omega)]
        exact h3 q hq
    by_cases hc : e 1 = -1 ∨ e 1 = Int32.ofNat i
    · rw [decide_eq_true hc, if_neg (show ¬ b2i true = 0 by decide)]
      refine wq_chk (n32_inb (by omega) hi) ?_
      rw [n32_c (by omega)]
      obtain ⟨S5, e5, g5, f5⟩ := f_take (S := S4) (b := 82 + 12 * i) he
      rw [e5, jbin0_s]
      refine fin S5 ?_ f5
      rw [g5, h2 i (Nat.le_refl _) hi, if_pos hc]
    · rw [decide_eq_false hc, if_pos (show b2i false = 0 from rfl)]
      refine fin S4 ?_ (fun _ _ => rfl)
      rw [h2 i (Nat.le_refl _) hi, if_neg hc]
  · exact wq_ite (fun _ => ⟨rfl, rfl, rfl, fun p hp => hP.1 p hp, hP.2.2⟩) (fun h => absurd (by decide) h)
theorem IP1_P {b p : Nat} {S SM : jS} : IP1 b p S SM ↔ IP1 0 p (getP b S) SM := by
  constructor
  · intro h
    exact IP1_c h (fun r j hr => by rw [Nat.zero_add, getP_at hr]) (fun _ _ _ _ => rfl)
  · intro h
    exact IP1_c h (fun r j hr => by rw [Nat.zero_add, getP_at hr]) (fun _ _ _ _ => rfl)
theorem foldP_app {L : jLg} {e : Nat → Int32} {p : Int32} : foldP (L ++ [e]) p = if e 1 = -1 ∨ e 1 = p then tk e (foldP L p) else foldP L p := by
  unfold foldP
  rw [List.foldl_append]
  rfl
/-- an entry, entered by both -/
theorem inv_enter {S S2 SM SM1 : jS} {L : jLg} {e : Nat → Int32} (h : InvL S L SM) (hS : ∀ q, ¬ (346 ≤ q ∧ q ≤ 357) → q ≠ 80 → S2 q = S q) (he : EntOk e ∧ EntV e) (hL : L.length < 400) (hM : ∀ q j, ((359 ≤ q ∧ q ≤ 364) ∨ (372 ≤ q ∧ q ≤ 375)) → SM1 q j = SM q j) (h30 : SM1 358 30 = Int32.ofNat (L.length + 1)) (hT : ITr S2 SM1)
    (hP : ∀ p, p < 20 → IP1 0 p (if e 1 = -1 ∨ e 1 = Int32.ofNat p then tk e (getP (82 + 12 * p) S) else getP (82 + 12 * p) S) SM1) : ∃ S1, f_X10_enter S2 L e = some (0, 0, (S1, L ++ [e])) ∧ (∀ q, ¬ (82 ≤ q ∧ q ≤ 321) → S1 q = S2 q) ∧ (∀ p, p < 20 → getP (82 + 12 * p) S1 = if e 1 = -1 ∨ e 1 = Int32.ofNat p then tk e (getP (82 + 12 * p) S) else getP (82 + 12 * p) S) ∧ InvL S1 (L ++ [e]) SM1 := by
  obtain ⟨S1, ee, hg, hf⟩ := f_enter (S := S2) he.1 hL
  have hgp : ∀ p, p < 20 → getP (82 + 12 * p) S2 = getP (82 + 12 * p) S := fun p hp => getP_c fun r j hr => by
    have := inP_le hr
    rw [hS _ (by omega) (by omega)]
  have hg2 : ∀ p, p < 20 → getP (82 + 12 * p) S1 = if e 1 = -1 ∨ e 1 = Int32.ofNat p then tk e (getP (82 + 12 * p) S) else getP (82 + 12 * p) S := fun p hp => by
    rw [hg p hp, hgp p hp]
  have hX : ∀ q j, ¬ (82 ≤ q ∧ q ≤ 321) → ¬ (346 ≤ q ∧ q ≤ 357) → q ≠ 80 → S1 q j = S q j := fun q j a b c => by rw [hf q a, hS q b c]
  obtain ⟨h1, h2, h3, h4, h5, h6, h7, h8⟩ := h
  refine ⟨S1, ee, hf, hg2, IPe_c h1 (fun q j _ _ => hX q j (by omega) (by omega) (by omega)) (fun q j _ _ => hM q j (by omega)), IDr_c h2 (fun a j ha => ⟨hX _ _ (by omega) (by omega) (by omega), hX _ _ (by omega) (by omega) (by omega)⟩) (fun q j _ _ => hM q j (by omega)),
    ITx_c h3 (fun q j _ _ => hX q j (by omega) (by omega) (by omega)) (fun a j ha => ⟨hX _ _ (by omega) (by omega) (by omega), hX _ _ (by omega) (by omega) (by omega)⟩) (fun q j _ _ => hM q j (by omega)), IFl_c h4 (fun q j _ _ => hX q j (by omega) (by omega) (by omega)) (fun q j _ _ => hM q j (by omega)),
    INe_c h5 (fun q j _ _ => hX q j (by omega) (by omega) (by omega)) (fun j => hM 375 j (by omega)), ITr_c hT (fun q j _ _ => by rw [hf q (by omega)]) (fun _ _ _ => rfl), fun p hp => IP1_P.mpr (by rw [hg2 p hp]; exact hP p hp), ?_⟩
  obtain ⟨l1, l2, l3, l4⟩ := h8
  refine ⟨by rw [List.length_append]; exact hL, by rw [List.length_append]; exact h30, fun e9 he9 => ?_, fun p hp => ?_⟩
  · rcases List.mem_append.mp he9 with h9 | h9
    · exact l3 e9 h9
    · rw [List.mem_singleton.mp h9]
      exact he
  · rw [hg2 p hp, foldP_app, l4 p hp]
theorem chk_c {α : Type} {b : Bool} {x y : Option α} (h : b = true → x = y) : chk b x = chk b y := by
  cases b
  · rfl
  · exact h rfl
theorem cg_dv2 {S S2 : jS} {a3 b b1 : Nat} {p f : Int32} (h : ∀ q, 322 ≤ q → q ≤ 357 → S2 q = S q) (ha3 : S2 a3 = S a3) (hb : ∀ t, t < 6 → S2 (b1 + 1) t = S (b + 1) t) : f_X10_decidedView S2 p f a3 b1 = f_X10_decidedView S p f a3 b := by
  unfold f_X10_decidedView
  refine chk_c fun hf => ?_
  have hf := inb_lt hf
  rw [cg_dec (h _ (by omega) (by omega)) (h _ (by omega) (by omega)) ha3]
  refine congrArg (jbin0 _) (funext fun v2 => funext fun _ => ?_)
  by_cases h2 : v2 = -1
  · rw [if_pos h2, if_pos h2]
  · rw [if_neg h2, if_neg h2, cg_tri (h _ (by omega) (by omega)) (h _ (by omega) (by omega)), cg_out (h _ (by omega) (by omega)) (h _ (by omega) (by omega))]
    refine chk_c fun _ => congrArg (jbin0 _) (funext fun v4 => funext fun _ => ?_)
    unfold joinK
    dsimp only
    by_cases h4 : v4 = -1
    · rw [if_pos h4, if_pos h4]
    · rw [if_neg h4, if_neg h4]
      refine chk_c fun hin => chk_c fun _ => ?_
      have hin := inb_lt hin
      rw [hb _ hin, cg_arm (h _ (by omega) (by omega)) (h _ (by omega) (by omega))]
theorem getP_forget {S : jS} {b : Nat} : getP b (fg3 b (fg1 b 0 S)) = P0 := by
  funext r j
  unfold P0
  by_cases h : inP r j
  · rw [getP_at h]
    have := inP_le h
    unfold fg3 fg1
    rcases h with ⟨h1, h2⟩ | ⟨h1, h2, h3⟩
    · rw [if_neg (by omega), if_neg (by omega), if_neg (by omega), if_pos (by omega), if_pos (Or.inl ⟨h1, h2⟩)]
    · by_cases h4 : r ≤ 9
      · rw [if_neg (by omega), if_neg (by omega)]
        by_cases h5 : r = 9
        · rw [if_pos (by omega), if_pos (Or.inr ⟨h1, h4, h3⟩)]
        · rw [if_neg (by omega), if_pos (by omega), if_pos (Or.inr ⟨h1, h4, h3⟩)]
      · rw [if_neg (by omega : ¬ ((r = 1 ∧ j < 6) ∨ (3 ≤ r ∧ r ≤ 9 ∧ j < 8)))]
        by_cases h5 : r = 11
        · rw [if_pos (by omega)]
        · rw [if_neg (by omega), if_pos (by omega)]
  · rw [getP_n h, if_neg (fun h9 => h (h9.elim Or.inl fun h8 => Or.inr ⟨h8.1, by omega, h8.2.2⟩))]
/-- 14: viewByLog -/
theorem ag_14 {S SM : jS} {L : jLg} (h : InvL S L SM) : ∀ p1 p2, AG (f_X10_viewByLog S L p1 p2) 1 0 0 (f_X11_viewByLog SM p1 p2) (fun S1 SM1 => InvL S1 L SM1) := fun p1 p2 => by
  by_cases hall : (0 ≤ p1 ∧ p1 ≤ 19) ∧ (0 ≤ p2 ∧ p2 ≤ 7)
  · obtain ⟨hp, hq⟩ := hall
    obtain ⟨p, hp9, rfl⟩ := n32_rg (n := 19) (by omega) hp
    obtain ⟨f, hf, rfl⟩ := n32_rg (n := 7) (by omega) hq
    obtain ⟨SM1, em, h0, hfM⟩ := m_vbl h hp9 hf
    obtain ⟨l1, l2, l3, l4⟩ := h.2.2.2.2.2.2.2
    have hcl : wq (f_X10_viewByLog S L (Int32.ofNat p) (Int32.ofNat f)) (fun t v S1 => t = 0 ∧ v = vwM SM p f ∧ ∀ q, ¬ (68 ≤ q ∧ q ≤ 80) → S1 q = S q) := by
      unfold f_X10_viewByLog
      rw [f_per_y hp, jbind_s, f_flg_y hq, jbind_s, f_forget, jbin0_s]
      have hff : ∀ q, ¬ (68 ≤ q ∧ q ≤ 80) → fg3 68 (fg1 68 0 S) q = S q := fun q hq => by
        funext j
        unfold fg3 fg1
        rw [if_neg (by omega), if_neg (by omega), if_neg (by omega), if_neg (by omega)]
      refine wq_for (fun (K : jS → Int32 → Option (jR jS)) i (b : jS) => K b i) L.length (fun i S3 => (∀ q, ¬ (68 ≤ q ∧ q ≤ 80) → S3 q = S q) ∧ getP 68 S3 = foldP (L.take i) (Int32.ofNat p)) (fun rec i S3 hi hP ih => ?_) (fun rec S3 hP => ?_) L.length 0 1000 _ (by omega) (by omega) ⟨hff, getP_forget⟩
      · obtain ⟨hf3, hg3⟩ := hP
        have e1 : (Int32.ofNat L.length ≤ Int32.ofNat i) = (L.length ≤ i) := n32_le (by omega) (by omega)
        have eAt : logAt L (Int32.ofNat i) = L[i] := by
          unfold logAt
          rw [n32_c (by omega), List.getD_eq_getElem?_getD, List.getElem?_eq_getElem hi]
          rfl
        have htake : L.take (i + 1) = L.take i ++ [L[i]] := List.take_succ_eq_append_getElem hi
        refine wq_ite (fun h => absurd (Eq.mp e1 h) (by omega)) (fun _ => wq_chk (n32_inb (by omega) hi) ?_)
        rw [eAt, f_concerns, jbin0_s]
        refine wq_join fun k12 hk12 => ?_
        have fin : ∀ S5, (∀ q, ¬ (68 ≤ q ∧ q ≤ 80) → S5 q = S q) → getP 68 S5 = foldP (L.take (i + 1)) (Int32.ofNat p) → wq (k12 S5) (fun t v S1 => t = 0 ∧ v = vwM SM p f ∧ ∀ q, ¬ (68 ≤ q ∧ q ≤ 80) → S1 q = S q) := fun S5 a1 a2 => by
          rw [hk12]
          dsimp only
          rw [n32_succ]
          exact wq_let (ih S5 ⟨a1, a2⟩)
        by_cases hc : L[i] 1 = -1 ∨ L[i] 1 = Int32.ofNat p
        · rw [decide_eq_true hc, if_neg (show ¬ b2i true = 0 by decide)]
          refine wq_chk (n32_inb (by omega) hi) ?_
          obtain ⟨S5, e5, g5, f5⟩ := f_take (S := S3) (b := 68) (l3 L[i] (List.getElem_mem hi)).1
          rw [e5, jbin0_s]
          refine fin S5 (fun q hq => (f5 q (by omega)).trans (hf3 q hq)) ?_
          rw [g5, htake, foldP_app, if_pos hc, hg3]
        · rw [decide_eq_false hc, if_pos (show b2i false = 0 from rfl)]
          refine fin S3 hf3 ?_
          rw [htake, foldP_app, if_neg hc, hg3]
      · obtain ⟨hf3, hg3⟩ := hP
        refine wq_ite (fun _ => ?_) (fun h => absurd (Int32.le_refl _) h)
        rw [List.take_length, ← l4 p (by omega)] at hg3
        have hrow : ∀ r j, inP r j → S3 (68 + r) j = S (82 + 12 * p + r) j := fun r j hr => by
          rw [← getP_at (b := 68) (S := S3) hr, hg3, getP_at hr]
        obtain ⟨hT, pos, hO, hpos⟩ := h.2.2.2.2.1
        obtain ⟨_, _, hV3⟩ := inv_views h
        have hD : ∃ D : Nat → Int32, ∀ f, f < 8 → f_X10_decidedView S (Int32.ofNat p) (Int32.ofNat f) 30 (82 + 12 * p) = some (0, D f, ()) ∧ vwM SM p f = stepV (SM 384 (8 * p + f)) (SM 385 (8 * p + f)) (SM 375 f) (D f) (vwM SM p) := ⟨fun f => vv (f_X10_decidedView S (Int32.ofNat p) (Int32.ofNat f) 30 (82 + 12 * p)), fun f hf => by
          obtain ⟨D, e1, e2⟩ := hV3 p (by omega) f hf
          have ed : vv (f_X10_decidedView S (Int32.ofNat p) (Int32.ofNat f) 30 (82 + 12 * p)) = D := by rw [e1]; rfl
          dsimp only
          rw [ed]
          exact ⟨e1, e2⟩⟩
        obtain ⟨D, hD⟩ := hD
        have e63 : S3 63 = S 63 := hf3 63 (by omega)
        obtain ⟨S4, e4, hf4, hV4⟩ := f_findViews (S := S3) (a1 := 80) (a3 := 30) (b4 := 68) (p := p) (pos := pos) (D := D) (Or.inl rfl) (by omega) (by omega) ⟨fun j hj => by rw [hf3 64 (by omega)]; exact hO.1 j hj, fun i hi => by rw [hf3 64 (by omega)]; exact hO.2 i hi⟩ (fun f hf => by rw [e63]; exact (hT f hf).2) (by rw [e63]; exact hpos) (fun f hf => by
          rw [cg_dv2 (b := 82 + 12 * p) (fun q h1 h2 => hf3 q (by omega)) (hf3 30 (by omega)) (fun t ht => hrow 1 t (in_1 ht))]
          exact (hD f hf).1)
        have hu := views_uniq (ho := fun f => SM 384 (8 * p + f)) (fz := fun f => SM 385 (8 * p + f)) (nd := fun f => SM 375 f) (D := D) (V := S4 80) (V1 := vwM SM p) (pos := pos) (fun i hi j hj hb => hpos i hi j hj (by rw [(hT i hi).1]; exact hb)) (fun f hf => by
          obtain ⟨_, g2, g3, _⟩ := (h.2.2.2.2.2.2.1 p (by omega)).2.2 f hf
          rw [hV4 f hf, hrow 10 f (in_10 hf), hrow 11 f (in_11 hf), e63, (hT f hf).1, g2, g3]) (fun f hf => (hD f hf).2)
        rw [e4, jbin0_s]
        refine wq_chk (in8 hf) ?_
        rw [n32_c (by omega)]
        exact ⟨rfl, hu f (by omega), fun q hq => (hf4 q (by omega)).trans (hf3 q hq)⟩
    obtain ⟨t9, v9, S9, ec, rfl, rfl, hf9⟩ := wq_ex hcl
    exact AG_ok ec em h0 (inv_fr h (fun q j hq => by rw [hf9 q (by omega)]) hfM)
  · refine AG_1 (v := 0) (v2 := 0) (S1 := S) (SM1 := jset SM 358 0 1) ?_ (m_vbl_n hall) jset_at (by decide) (inv_thr h)
    unfold f_X10_viewByLog
    by_cases hp : 0 ≤ p1 ∧ p1 ≤ 19
    · rw [f_per_y hp, jbind_s, f_flg_n (fun hq => hall ⟨hp, hq⟩), jbind_t]
    · rw [f_per_n hp, jbind_t]
end ENT
