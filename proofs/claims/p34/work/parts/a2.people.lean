section PPL
theorem tst_ats {ats ats1 : Nat → Nat → Int32} {tgs tgs1 M : Nat → Int32} {c : Nat → Int32} {n p i : Nat} (h : ∀ k, k < 3 → ats1 p k = ats p k) (h1 : tgs1 p = tgs p) : tst ats1 tgs1 M c n p i = tst ats tgs M c n p i := by
  unfold tst
  rw [h1]
  have hk : (if c i = 108 then 0 else if c i = 97 then 1 else 2) < 3 := by
    by_cases a : c i = 108
    · rw [if_pos a]
      omega
    · rw [if_neg a]
      by_cases b : c i = 97
      · rw [if_pos b]
        omega
      · rw [if_neg b]
        omega
  rw [h _ hk]
theorem inv_people {S SM S5 SM5 : jS} {L : jLg} (h : InvL S L SM) (hS : ∀ q j, ¬ (3 ≤ q ∧ q ≤ 23) → S5 q j = S q j) (hM : ∀ q j, (¬ (359 ≤ q ∧ q ≤ 360) ∧ ¬ (q = 358 ∧ j = 0)) → SM5 q j = SM q j) (hp : IPe S5 SM5) : ∃ S6, f_X0_settle S5 = some (0, 0, S6) ∧ InvL S6 L SM5 := by
  obtain ⟨h1, h2, h3, h4, h5, h6, h7, h8⟩ := h
  obtain ⟨ns, cs, pos, t1, t2, t3, t4, t5, t6⟩ := h3
  have hR : RuC S5 ns cs := fun a ha => by
    obtain ⟨⟨a1, a2⟩, a3⟩ := t1 a ha
    exact ⟨⟨⟨a1.1, (hS _ _ (by omega)).trans a1.2⟩, fun j hj => (hS _ _ (by omega)).trans (a2 j hj)⟩, a3⟩
  have hO : OrdC S5 29 6 pos := ⟨fun j hj => by rw [hS 29 j (by omega)]; exact t3.1 j hj, fun i hi => by rw [hS 29 _ (by omega)]; exact t3.2 i hi⟩
  obtain ⟨S6, e, hf, hF⟩ := f_settle hR hO t4
  have hX : ∀ q j, q ≠ 30 → (q < 33 ∨ 36 < q) → ¬ (3 ≤ q ∧ q ≤ 23) → S6 q j = S q j := fun q j a b c => (hf q j a b).trans (hS q j c)
  refine ⟨S6, e, IPe_c hp (fun q j _ _ => hf q j (by omega) (by omega)) (fun _ _ _ _ => rfl), IDr_c h2 (fun a j ha => ⟨hX _ _ (by omega) (by omega) (by omega), hX _ _ (by omega) (by omega) (by omega)⟩) (fun q j _ _ => hM q j (by omega)),
    ⟨ns, cs, pos, RuC_fr (by omega) hf hR, fun a ha => ⟨by rw [hM 364 a (by omega)]; exact (t2 a ha).1, fun j hj => by rw [hX _ _ (by omega) (by omega) (by omega), hM 363 _ (by omega)]; exact (t2 a ha).2 j hj⟩, ⟨fun j hj => by rw [hf 29 j (by omega) (by omega)]; exact hO.1 j hj, fun i hi => by rw [hf 29 _ (by omega) (by omega)]; exact hO.2 i hi⟩, t4, fun a ha => by rw [hX 28 a (by omega) (by omega) (by omega)]; exact t5 a ha, fun a ha => ?_⟩, IFl_c h4 (fun q j _ _ => hX q j (by omega) (by omega) (by omega)) (fun q j _ _ => hM q j (by omega)),
    INe_c h5 (fun q j _ _ => hX q j (by omega) (by omega) (by omega)) (fun j => hM 375 j (by omega)), ITr_c h6 (fun q j _ _ => hX q j (by omega) (by omega) (by omega)) (fun q j hq => hM q j (by omega)), IPa_c h7 (fun q j _ _ => hX q j (by omega) (by omega) (by omega)) (fun q j _ _ => hM q j (by omega)),
    ILo_c h8 (fun q j _ _ => hX q j (by omega) (by omega) (by omega)) (hM 358 30 (by omega))⟩
  exact FixM_cong (hF a ha) (fun p k hp => hf _ _ (by omega) (by omega)) (fun p hp => hf 23 p (by omega) (by omega)) rfl (fun _ _ _ => rfl)
/-- 0: setAttribute -/
theorem ag_0 {S SM : jS} {L : jLg} (h : InvL S L SM) : ∀ p1 p2 p3, AGv (f_X10_setAttribute S p1 p2 p3) 1 0 0 (f_X11_setAttribute SM p1 p2 p3) (fun S1 SM1 => InvL S1 L SM1) := fun p1 p2 p3 => by
  by_cases hall : (0 ≤ p1 ∧ p1 ≤ 19) ∧ (0 ≤ p2 ∧ p2 ≤ 2) ∧ (0 ≤ p3 ∧ p3 ≤ (if p2 = 0 then 9 else if p2 = 1 then 99 else 3))
  · obtain ⟨hp, hq, hr⟩ := hall
    obtain ⟨p, hp9, rfl⟩ := n32_rg (n := 19) (by omega) hp
    obtain ⟨k, hk, rfl⟩ := n32_rg (n := 2) (by omega) hq
    have hv := (h.1 p (by omega)).1 k (by omega)
    obtain ⟨S6, es, hI⟩ := inv_people (S5 := jset S (3 + p) k p3) (SM5 := jset (jset SM 358 0 0) 359 (3 * p + k) p3) h (fun q j hq => jset_ne (by omega)) (fun q j hq => by rw [jset_ne (by omega), jset_ne (by omega)]) (fun p9 hp99 => by
      obtain ⟨a1, a2, a3⟩ := h.1 p9 hp99
      refine ⟨fun k9 hk9 => ?_, by rw [jset_ne (by omega), jset_ne (by omega), jset_ne (by omega)]; exact a2, fun k9 hk9 => ?_⟩
      · by_cases hpk : p9 = p ∧ k9 = k
        · rw [hpk.1, hpk.2, jset_at, jset_at]
        · rw [jset_ne (by omega), jset_ne (by omega), jset_ne (by omega)]
          exact a1 k9 hk9
      · by_cases hpk : p9 = p ∧ k9 = k
        · rw [hpk.1, hpk.2, jset_at]
          exact hr.1
        · rw [jset_ne (by omega), jset_ne (by omega)]
          exact a3 k9 hk9)
    refine AGv_ok (v := SM 359 (3 * p + k)) (S1 := S6) (SM1 := jset (jset SM 358 0 0) 359 (3 * p + k) p3) ?_ ?_ (by rw [jset_ne (by omega), jset_at]) hI (by intro e9; have h9 := (h.1 p (by omega)).2.2 k (by omega); rw [e9] at h9; exact absurd h9 (by decide))
    · unfold f_X10_setAttribute letE
      dsimp only
      rw [f_per_y hp, jbind_s, f_rng_y hq, jbind_s, f_most, jbin0_s, f_rng_y hr, jbind_s, chk_t (in20 hp9), chk_t (n32_inb (by omega) (by omega)), chk_t (in20 hp9), chk_t (n32_inb (by omega) (by omega)), n32_c (show p ≤ 1000 by omega), n32_c (show k ≤ 1000 by omega), es, jbin0_s, hv]
    · unfold f_X11_setAttribute joinK letE
      have tail : ∀ x2 : Int32, x2 = (if Int32.ofNat k = 0 then 9 else if Int32.ofNat k = 1 then 99 else 3) → jbin0 (f_X11_isPerson (Int32.ofNat p)) (fun v3 _ => if v3 = 0 then jbin0 (f_X11_goesWell SM 1) (fun v15 S16 => if v15 = 0 then some ((0 : Nat), (0 : Int32), S16) else chk (inb (3 * Int32.ofNat p + Int32.ofNat k) 60) (chk (inb (3 * Int32.ofNat p + Int32.ofNat k) 60) (some (0, S16 359 (3 * Int32.ofNat p + Int32.ofNat k).toNatClampNeg, jset S16 359 (3 * Int32.ofNat p + Int32.ofNat k).toNatClampNeg p3)))) else jbin0 (f_X11_in (Int32.ofNat k) 0 2) (fun v6 _ => if v6 = 0 then jbin0 (f_X11_goesWell SM 1) (fun v15 S16 => if v15 = 0 then some ((0 : Nat), (0 : Int32), S16) else chk (inb (3 * Int32.ofNat p + Int32.ofNat k) 60) (chk (inb (3 * Int32.ofNat p + Int32.ofNat k) 60) (some (0, S16 359 (3 * Int32.ofNat p + Int32.ofNat k).toNatClampNeg, jset S16 359 (3 * Int32.ofNat p + Int32.ofNat k).toNatClampNeg p3)))) else jbin0 (f_X11_in p3 0 x2) (fun v7 _ => if v7 = 0 then jbin0 (f_X11_goesWell SM 1) (fun v15 S16 => if v15 = 0 then some ((0 : Nat), (0 : Int32), S16) else chk (inb (3 * Int32.ofNat p + Int32.ofNat k) 60) (chk (inb (3 * Int32.ofNat p + Int32.ofNat k) 60) (some (0, S16 359 (3 * Int32.ofNat p + Int32.ofNat k).toNatClampNeg, jset S16 359 (3 * Int32.ofNat p + Int32.ofNat k).toNatClampNeg p3)))) else jbin0 (f_X11_goesWell SM 0) (fun v15 S16 => if v15 = 0 then some ((0 : Nat), (0 : Int32), S16) else chk (inb (3 * Int32.ofNat p + Int32.ofNat k) 60) (chk (inb (3 * Int32.ofNat p + Int32.ofNat k) 60) (some (0, S16 359 (3 * Int32.ofNat p + Int32.ofNat k).toNatClampNeg, jset S16 359 (3 * Int32.ofNat p + Int32.ofNat k).toNatClampNeg p3))))))) = some (0, SM 359 (3 * p + k), jset (jset SM 358 0 0) 359 (3 * p + k) p3) := fun x2 hx => by
        rw [← hx] at hr
        rw [m_person, jbin0_s, rg_1 hp, if_neg (by decide), m_in, jbin0_s, rg_1 hq, if_neg (by decide), m_in, jbin0_s, rg_1 hr, if_neg (by decide), m_w0, jbin0_s, if_neg (by decide), n32_3, chk_t (n32_inb (by omega) (by omega)), chk_t (n32_inb (by omega) (by omega)), n32_c (by omega), jset_ne (by omega)]
      dsimp only
      by_cases k0 : Int32.ofNat k = 0
      · rw [if_pos k0]
        exact tail 9 (by rw [if_pos k0])
      · rw [if_neg k0]
        by_cases k1 : Int32.ofNat k = 1
        · rw [if_pos k1]
          exact tail 99 (by rw [if_neg k0, if_pos k1])
        · rw [if_neg k1]
          exact tail 3 (by rw [if_neg k0, if_neg k1])
  · refine AGv_1 (v := 0) (v2 := 0) (S1 := S) (SM1 := jset SM 358 0 1) ?_ ?_ jset_at (by decide) (inv_thr h)
    · unfold f_X10_setAttribute
      by_cases hp : 0 ≤ p1 ∧ p1 ≤ 19
      · rw [f_per_y hp, jbind_s]
        by_cases hq : 0 ≤ p2 ∧ p2 ≤ 2
        · rw [f_rng_y hq, jbind_s, f_most, jbin0_s, f_rng_n (fun hr => hall ⟨hp, hq, hr⟩), jbind_t]
        · rw [f_rng_n hq, jbind_t]
      · rw [f_per_n hp, jbind_t]
    · unfold f_X11_setAttribute
      suffices hw : wq (joinK (fun (x2 : Int32) => jbin0 (f_X11_isPerson p1) (fun v3 _ => joinK (fun (x14 : Int32) => jbin0 (f_X11_goesWell SM x14) (fun v15 S16 => (if v15 = (0 : Int32) then some (0, (0 : Int32), S16) else chk (inb ((((3 : Int32) * p1) + p2)) 60) (letE ((S16 359 ((((3 : Int32) * p1) + p2)).toNatClampNeg)) fun x17 => chk (inb ((((3 : Int32) * p1) + p2)) 60) (letE (jset S16 359 ((((3 : Int32) * p1) + p2)).toNatClampNeg p3) fun S18 => some (0, x17, S18)))))) (fun k4 => joinK (fun (_ : Unit) => k4 (1 : Int32)) (fun k5 => (if v3 = (0 : Int32) then k5 () else jbin0 (f_X11_in p2 (0 : Int32) (2 : Int32)) (fun v6 _ => (if v6 = (0 : Int32) then k5 () else jbin0 (f_X11_in p3 (0 : Int32) x2) (fun v7 _ => (if v7 = (0 : Int32) then k5 () else k4 (0 : Int32)))))))))) (fun k1 => (if p2 = (0 : Int32) then k1 (9 : Int32) else (if p2 = (1 : Int32) then k1 (99 : Int32) else k1 (3 : Int32))))) (fun t v S1 => t = 0 ∧ v = 0 ∧ S1 = jset SM 358 0 1) by
        obtain ⟨t, v, S1, e, rfl, rfl, rfl⟩ := wq_ex hw
        exact e
      refine wq_join fun k1 hk1 => ?_
      have tail : ∀ x2 : Int32, x2 = (if p2 = 0 then 9 else if p2 = 1 then 99 else 3) → wq (k1 x2) (fun t v S1 => t = 0 ∧ v = 0 ∧ S1 = jset SM 358 0 1) := fun x2 hx => by
        rw [hk1]
        dsimp only
        rw [m_person, jbin0_s]
        refine wq_join fun k4 hk4 => wq_join fun k5 hk5 => ?_
        have fin : wq (k5 ()) (fun t v S1 => t = 0 ∧ v = 0 ∧ S1 = jset SM 358 0 1) := by
          rw [hk5, hk4]
          dsimp only
          rw [m_w1, jbin0_s, if_pos rfl]
          exact ⟨rfl, rfl, rfl⟩
        by_cases hp : 0 ≤ p1 ∧ p1 ≤ 19
        · rw [rg_1 hp, if_neg (by decide), m_in, jbin0_s]
          by_cases hq : 0 ≤ p2 ∧ p2 ≤ 2
          · rw [rg_1 hq, if_neg (by decide), m_in, jbin0_s, rg_0 (fun hr => hall ⟨hp, hq, hx ▸ hr⟩), if_pos rfl]
            exact fin
          · rw [rg_0 hq, if_pos rfl]
            exact fin
        · rw [rg_0 hp, if_pos rfl]
          exact fin
      refine wq_ite (fun a => tail 9 (by rw [if_pos a])) (fun a => wq_ite (fun b => tail 99 (by rw [if_neg a, if_pos b])) (fun b => tail 3 (by rw [if_neg a, if_neg b])))
/-- 1: setTag -/
theorem ag_1 {S SM : jS} {L : jLg} (h : InvL S L SM) : ∀ p1 p2 p3, AGv (f_X10_setTag S p1 p2 p3) 1 0 0 (f_X11_setTag SM p1 p2 p3) (fun S1 SM1 => InvL S1 L SM1) := fun p1 p2 p3 => by
  by_cases hp : 0 ≤ p1 ∧ p1 ≤ 19
  · by_cases hq : 0 ≤ p2 ∧ p2 ≤ 7
    · obtain ⟨p, hp9, rfl⟩ := n32_rg (n := 19) (by omega) hp
      obtain ⟨t, ht, rfl⟩ := n32_rg (n := 7) (by omega) hq
      have hv := (h.1 p (by omega)).2.1
      obtain ⟨S6, es, hI⟩ := inv_people (S5 := jset S 23 p (wb (S 23 p) (Int32.ofNat t) p3)) (SM5 := jset (jset SM 358 0 0) 360 p (wb (S 23 p) (Int32.ofNat t) p3)) h (fun q j hq => jset_ne (by omega)) (fun q j hq => by rw [jset_ne (by omega), jset_ne (by omega)]) (fun p9 hp99 => by
        obtain ⟨a1, a2, a3⟩ := h.1 p9 hp99
        refine ⟨fun k9 hk9 => by rw [jset_ne (by omega), jset_ne (by omega), jset_ne (by omega)]; exact a1 k9 hk9, ?_, fun k9 hk9 => by rw [jset_ne (by omega), jset_ne (by omega)]; exact a3 k9 hk9⟩
        by_cases hpk : p9 = p
        · rw [hpk, jset_at, jset_at]
        · rw [jset_ne (by omega), jset_ne (by omega), jset_ne (by omega)]
          exact a2)
      refine AGv_ok (v := hb (S 23 p) (Int32.ofNat t)) (S1 := S6) (SM1 := jset (jset SM 358 0 0) 360 p (wb (S 23 p) (Int32.ofNat t) p3)) ?_ ?_ (by rw [jset_ne (by omega), jset_at]) hI hb_big
      · unfold f_X10_setTag letE
        rw [f_per_y hp, jbind_s, f_rng_y hq, jbind_s, chk_t (in20 hp9), n32_c (show p ≤ 1000 by omega), f_hasBit, jbin0_s, chk_t (in20 hp9), f_withBit, jbin0_s, chk_t (in20 hp9)]
        dsimp only
        rw [es, jbin0_s, chk_t hb_isb]
      · unfold f_X11_setTag joinK letE
        rw [m_person, jbin0_s, rg_1 hp]
        dsimp only
        rw [if_neg (by decide), m_in, jbin0_s, rg_1 hq, if_neg (by decide), m_w0, jbin0_s, if_neg (by decide), chk_t (in20 hp9), n32_c (show p ≤ 1000 by omega), jset_ne (by omega), ← hv, hb_bt (by omega)]
        simp only [m_bit (show t < 32 by omega), chk_t (in20 hp9), chk_t (show isb 1 = true by decide), chk_t (show isb 0 = true by decide)]
        unfold wb
        by_cases hbo : bt (S 23 p) t = true
        · rw [if_pos hbo, if_pos hbo]
          by_cases hz : p3 = 0
          · rw [if_pos hz, if_pos hz]
          · rw [if_neg hz, if_neg hz]
        · rw [if_neg hbo, if_neg hbo]
          by_cases hz : p3 = 0
          · rw [if_pos hz, if_pos hz]
          · rw [if_neg hz, if_neg hz]
    · refine AGv_1 (v := 0) (v2 := 0) (S1 := S) (SM1 := jset SM 358 0 1) ?_ ?_ jset_at (by decide) (inv_thr h)
      · unfold f_X10_setTag
        rw [f_per_y hp, jbind_s, f_rng_n hq, jbind_t]
      · unfold f_X11_setTag joinK letE
        rw [m_person, jbin0_s, rg_1 hp]
        dsimp only
        rw [if_neg (by decide), m_in, jbin0_s, rg_0 hq, if_pos rfl, m_w1, jbin0_s, if_pos rfl]
        rfl
  · refine AGv_1 (v := 0) (v2 := 0) (S1 := S) (SM1 := jset SM 358 0 1) ?_ ?_ jset_at (by decide) (inv_thr h)
    · unfold f_X10_setTag
      rw [f_per_n hp, jbind_t]
    · unfold f_X11_setTag joinK letE
      rw [m_person, jbin0_s, rg_0 hp]
      dsimp only
      rw [if_pos rfl, m_w1, jbin0_s, if_pos rfl]
      rfl
/-- the model's members are the class's, once they are gathered -/
theorem inv_gather {S SM : jS} {L : jLg} (h : InvL S L SM) : ∃ SM1, f_X11_gather SM = some (0, 0, SM1) ∧ frG SM1 SM ∧ ∀ a, a < 6 → SM1 367 a = S 30 a := by
  obtain ⟨ns, cs, pos, t1, t2, t3, t4, t5, t6⟩ := h.2.2.1
  refine m_gather (cs := cs) (ns := ns) (pos := pos) (fun a ha => (t1 a ha).2) (fun a ha => ⟨ha, (t1 a ha).1.1.1, (t2 a ha).1, fun j hj => ?_⟩) (fun a ha => ⟨(t6 a ha).1, fun p hp => ?_⟩) (fun a ha => ⟨(t3.2 a ha).1, t4 a ha⟩)
  · have hn := (t1 a ha).1.1.1
    rw [← (t2 a ha).2 j (by omega)]
    have := (t1 a ha).1.2 j hj
    rw [show 39 + 4 * a + 1 = 40 + 4 * a by omega] at this
    exact this
  · rw [(t6 a ha).2 p hp]
    exact ev_cong (fun _ _ => rfl) fun i hi _ => tst_ats (fun k hk => (h.1 p hp).1 k hk) (h.1 p hp).2.1
theorem frG_M {S1 S : jS} (h : frG S1 S) : frM S1 S := fun q j hq => h q j (by omega)
/-- 8: isIn -/
theorem ag_8 {S SM : jS} {L : jLg} (h : InvL S L SM) : ∀ p1 p2, AG (f_X10_isIn S p1 p2) 1 0 0 (f_X11_isIn SM p1 p2) (fun _ SM1 => InvL S L SM1) := fun p1 p2 => by
  by_cases hp : 0 ≤ p1 ∧ p1 ≤ 5
  · by_cases hq : 0 ≤ p2 ∧ p2 ≤ 19
    · obtain ⟨a, ha, rfl⟩ := n32_rg (n := 5) (by omega) hp
      obtain ⟨p, hp9, rfl⟩ := n32_rg (n := 19) (by omega) hq
      obtain ⟨SM1, eg, hf, hm⟩ := inv_gather (inv_thr (c := 0) h)
      refine AG_ok (v := hb (S 30 a) (Int32.ofNat p)) (S1 := ()) (SM1 := SM1) ?_ ?_ (by rw [hf 358 0 (by omega), jset_at]) (inv_fr (inv_thr (c := 0) h) frX_r (frG_M hf))
      · unfold f_X10_isIn
        rw [f_aud_y hp, jbind_s, f_per_y hq, jbind_s, chk_t (in6 ha), n32_c (by omega), f_hasBit, jbin0_s, chk_t hb_isb]
      · unfold f_X11_isIn joinK
        rw [m_audience, jbin0_s, rg_1 hp]
        dsimp only
        rw [if_neg (by decide), m_person, jbin0_s, rg_1 hq, if_neg (by decide), m_w0, jbin0_s, if_neg (by decide), eg, jbin0_s, chk_t (in6 ha), n32_c (by omega), hm a (by omega), hb_bt (by omega)]
        simp only [m_bit (show p < 32 by omega)]
        cases bt (S 30 a) p <;> rfl
    · refine AG_1 (v := 0) (v2 := 0) (S1 := ()) (SM1 := jset SM 358 0 1) ?_ ?_ jset_at (by decide) (inv_thr h)
      · unfold f_X10_isIn
        rw [f_aud_y hp, jbind_s, f_per_n hq, jbind_t]
      · unfold f_X11_isIn joinK
        rw [m_audience, jbin0_s, rg_1 hp]
        dsimp only
        rw [if_neg (by decide), m_person, jbin0_s, rg_0 hq, if_pos rfl, m_w1, jbin0_s, if_pos rfl]
        rfl
  · refine AG_1 (v := 0) (v2 := 0) (S1 := ()) (SM1 := jset SM 358 0 1) ?_ ?_ jset_at (by decide) (inv_thr h)
    · unfold f_X10_isIn
      rw [f_aud_n hp, jbind_t]
    · unfold f_X11_isIn joinK
      rw [m_audience, jbin0_s, rg_0 hp]
      dsimp only
      rw [if_pos rfl, m_w1, jbin0_s, if_pos rfl]
      rfl
end PPL
