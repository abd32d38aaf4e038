section SHW
theorem Int32_acs {v : Int32} : v + 1 - 1 = v := Int32.add_sub_cancel v 1
/-- the entry of a showing, where no trial takes part -/
theorem show_A {S SM G S4 : jS} {L : jLg} (h : InvL S L SM) {p f : Nat} (hp : p ≤ 19) (hf : f ≤ 7) (hL : L.length < 400) (hG : frM G SM) (h4 : ∀ q, q ≠ 80 → S4 q = S q) (v : Int32) (hvv : ∃ k, k ≤ 3 ∧ v = Int32.ofNat k) :
    ∃ S1, f_X10_enter S4 L (ent5 0 (Int32.ofNat p) (Int32.ofNat f) (-1) v) = some (0, 0, (S1, L ++ [ent5 0 (Int32.ofNat p) (Int32.ofNat f) (-1) v])) ∧ InvL S1 (L ++ [ent5 0 (Int32.ofNat p) (Int32.ofNat f) (-1) v]) (jset (jset G 386 (8 * p + f) (v + 1)) 358 30 (G 358 30 + 1)) := by
  have m386 : ∀ j, jset (jset G 386 (8 * p + f) (v + 1)) 358 30 (G 358 30 + 1) 386 j = if j = 8 * p + f then v + 1 else SM 386 j := fun j => by
    rw [jset_ne (by omega), jset_if]
    by_cases hj : j = 8 * p + f
    · rw [if_pos ⟨rfl, hj⟩, if_pos hj]
    · rw [if_neg (fun h => hj h.2), if_neg hj, hG 386 j (by omega)]
  have mo : ∀ q j, 359 ≤ q → (q ≤ 364 ∨ (372 ≤ q ∧ q ≤ 375) ∨ 378 ≤ q) → q ≠ 386 → jset (jset G 386 (8 * p + f) (v + 1)) 358 30 (G 358 30 + 1) q j = SM q j := fun q j a b c => by rw [jset_ne (by omega), jset_ne (by omega), hG q j (by omega)]
  have hl30 : G 358 30 = Int32.ofNat L.length := by rw [hG 358 30 (by omega)]; exact h.2.2.2.2.2.2.2.2.1
  obtain ⟨S1, ee, _, _, hI⟩ := inv_enter (S2 := S4) (SM1 := jset (jset G 386 (8 * p + f) (v + 1)) 358 30 (G 358 30 + 1)) (e := ent5 0 (Int32.ofNat p) (Int32.ofNat f) (-1) v) h (fun q _ h80 => h4 q h80) ⟨Or.inl ⟨rfl, ⟨f, by omega, rfl⟩, Or.inl rfl⟩, fun _ => hvv⟩ hL (fun q j hq => mo q j (by omega) (by omega) (by omega)) (by rw [jset_at, hl30, n32_succ]) (ITr_same h.2.2.2.2.2.1 (fun q _ _ => h4 q (by omega)) (fun q j hq => mo q j (by omega) (by omega) (by omega))) (fun p9 hp99 => by
    have e1 : ent5 0 (Int32.ofNat p) (Int32.ofNat f) (-1) v 1 = Int32.ofNat p := rfl
    have hold := IP1_pers h hp99
    by_cases hpp : p9 = p
    · rw [hpp, if_pos (Or.inr e1)]
      rw [hpp] at hold
      have htk : ∀ r j, tk (ent5 0 (Int32.ofNat p) (Int32.ofNat f) (-1) v) (getP (82 + 12 * p) S) r j = (if r = 9 ∧ j = f then v else getP (82 + 12 * p) S r j) := fun r j => by
        have cf : (ent5 0 (Int32.ofNat p) (Int32.ofNat f) (-1) v 2).toNatClampNeg = f := n32_c (k := f) (by omega)
        have e0 : ent5 0 (Int32.ofNat p) (Int32.ofNat f) (-1) v 0 = 0 := rfl
        have e3 : ent5 0 (Int32.ofNat p) (Int32.ofNat f) (-1) v 3 = -1 := rfl
        have e4 : ent5 0 (Int32.ofNat p) (Int32.ofNat f) (-1) v 4 = v := rfl
        unfold tk
        rw [e0, if_pos (Or.inl rfl), cf, e3, e4]
        by_cases h9 : r = 9 ∧ j = f
        · rw [if_pos h9, if_pos h9]
        · rw [if_neg h9, if_neg h9, if_neg (fun h => h.1 rfl), if_neg (fun h => absurd h.1 (by decide))]
      obtain ⟨o1, o2, o3⟩ := hold
      refine ⟨fun t ht => ?_, fun t ht f9 hf9 => ?_, fun f9 hf9 => ?_⟩
      · rw [htk, if_neg (by omega), mo 381 _ (by omega) (by omega) (by omega)]
        exact o1 t ht
      · rw [htk, if_neg (by omega), mo 382 _ (by omega) (by omega) (by omega)]
        exact o2 t ht f9 hf9
      · have := o3 f9 hf9
        rw [Nat.zero_add, Nat.zero_add, Nat.zero_add] at this
        obtain ⟨c1, c2, c3, c4, c5⟩ := this
        rw [Nat.zero_add, Nat.zero_add, Nat.zero_add, htk, htk, htk, if_neg (show ¬ (10 = 9 ∧ f9 = f) by omega), if_neg (show ¬ (11 = 9 ∧ f9 = f) by omega), m386, mo 384 _ (by omega) (by omega) (by omega), mo 385 _ (by omega) (by omega) (by omega)]
        refine ⟨?_, c2, c3, c4, fun t ht h9 => c5 t ht (by rw [← mo 383 t (by omega) (by omega) (by omega)]; exact h9)⟩
        by_cases hff : f9 = f
        · rw [if_pos ⟨rfl, hff⟩, if_pos (by omega), Int32_acs]
        · rw [if_neg (fun h => hff h.2), if_neg (by omega)]
          exact c1
    · have hne : ¬ (ent5 0 (Int32.ofNat p) (Int32.ofNat f) (-1) v 1 = -1 ∨ ent5 0 (Int32.ofNat p) (Int32.ofNat f) (-1) v 1 = Int32.ofNat p9) := by
        rw [e1]
        exact fun h => h.elim (fun h => n32_m1 (by omega) h) (fun h => hpp (n32_inj (by omega) (by omega) h).symm)
      rw [if_neg hne]
      refine IP1_c2 hold (fun _ _ _ => rfl) (fun t ht => mo 381 _ (by omega) (by omega) (by omega)) (fun t ht f9 hf9 => mo 382 _ (by omega) (by omega) (by omega)) (fun q f9 h1 h2 hf9 => ?_) (fun t ht h9 => by rw [mo 383 _ (by omega) (by omega) (by omega)] at h9; exact h9)
      by_cases hq6 : q = 386
      · rw [hq6, m386, if_neg (by omega)]
      · exact mo q _ (by omega) (by omega) hq6)
  exact ⟨S1, ee, hI⟩
/-- the entry of a showing by a trial -/
theorem show_B {S SM G S4 : jS} {L : jLg} (h : InvL S L SM) {p f t m k : Nat} {kd : Int32} (hp : p ≤ 19) (hf : f ≤ 7) (ht : t < 6) (hm : m ≤ 3) (hk : k ≤ 4) (hk9 : SM 381 (20 * t + p) = Int32.ofNat k) (hL : L.length < 400) (hG : frM G SM) (h4 : ∀ q, q ≠ 80 → S4 q = S q) (hkd : kd = 0 ∨ kd = 1) :
    ∃ S1, f_X10_enter S4 L (ent5 kd (Int32.ofNat p) (Int32.ofNat f) (Int32.ofNat t) (Int32.ofNat m)) = some (0, 0, (S1, L ++ [ent5 kd (Int32.ofNat p) (Int32.ofNat f) (Int32.ofNat t) (Int32.ofNat m)])) ∧ InvL S1 (L ++ [ent5 kd (Int32.ofNat p) (Int32.ofNat f) (Int32.ofNat t) (Int32.ofNat m)]) (jset (jset (jset (jset G 382 (160 * t + (8 * p + f)) (Int32.ofNat m + 1)) 381 (20 * t + p) (if kd = 1 then Int32.ofNat m + 1 else Int32.ofNat k)) 386 (8 * p + f) (Int32.ofNat m + 1)) 358 30 (G 358 30 + 1)) := by
  generalize hX : jset (jset (jset (jset G 382 (160 * t + (8 * p + f)) (Int32.ofNat m + 1)) 381 (20 * t + p) (if kd = 1 then Int32.ofNat m + 1 else Int32.ofNat k)) 386 (8 * p + f) (Int32.ofNat m + 1)) 358 30 (G 358 30 + 1) = X
  have m386 : ∀ j, X 386 j = if j = 8 * p + f then Int32.ofNat m + 1 else SM 386 j := fun j => by
    rw [← hX, jset_ne (by omega), jset_if]
    by_cases hj : j = 8 * p + f
    · rw [if_pos ⟨rfl, hj⟩, if_pos hj]
    · rw [if_neg (fun h => hj h.2), if_neg hj, jset_ne (by omega), jset_ne (by omega), hG 386 j (by omega)]
  have m381 : ∀ j, X 381 j = if j = 20 * t + p then (if kd = 1 then Int32.ofNat m + 1 else Int32.ofNat k) else SM 381 j := fun j => by
    rw [← hX, jset_ne (by omega), jset_ne (by omega), jset_if]
    by_cases hj : j = 20 * t + p
    · rw [if_pos ⟨rfl, hj⟩, if_pos hj]
    · rw [if_neg (fun h => hj h.2), if_neg hj, jset_ne (by omega), hG 381 j (by omega)]
  have m382 : ∀ j, X 382 j = if j = 160 * t + (8 * p + f) then Int32.ofNat m + 1 else SM 382 j := fun j => by
    rw [← hX, jset_ne (by omega), jset_ne (by omega), jset_ne (by omega), jset_if]
    by_cases hj : j = 160 * t + (8 * p + f)
    · rw [if_pos ⟨rfl, hj⟩, if_pos hj]
    · rw [if_neg (fun h => hj h.2), if_neg hj, hG 382 j (by omega)]
  have mo : ∀ q j, 359 ≤ q → (q ≤ 364 ∨ (372 ≤ q ∧ q ≤ 375) ∨ 378 ≤ q) → q ≠ 386 → q ≠ 381 → q ≠ 382 → X q j = SM q j := fun q j a b c d e => by rw [← hX, jset_ne (by omega), jset_ne (by omega), jset_ne (by omega), jset_ne (by omega), hG q j (by omega)]
  have hl30 : X 358 30 = Int32.ofNat (L.length + 1) := by
    rw [← hX, jset_at, hG 358 30 (by omega), h.2.2.2.2.2.2.2.2.1, n32_succ]
  have e1 : ent5 kd (Int32.ofNat p) (Int32.ofNat f) (Int32.ofNat t) (Int32.ofNat m) 1 = Int32.ofNat p := rfl
  obtain ⟨S1, ee, _, _, hI⟩ := inv_enter (S2 := S4) (SM1 := X) (e := ent5 kd (Int32.ofNat p) (Int32.ofNat f) (Int32.ofNat t) (Int32.ofNat m)) h (fun q _ h80 => h4 q h80) (⟨by
    rcases hkd with hkd | hkd
    · exact Or.inl ⟨hkd, ⟨f, by omega, rfl⟩, Or.inr ⟨t, ht, rfl⟩⟩
    · exact Or.inr (Or.inl ⟨hkd, ⟨f, by omega, rfl⟩, t, ht, rfl⟩), fun _ => ⟨m, hm, rfl⟩⟩) hL (fun q j hq => mo q j (by omega) (by omega) (by omega) (by omega) (by omega)) hl30 (ITr_same h.2.2.2.2.2.1 (fun q _ _ => h4 q (by omega)) (fun q j hq => mo q j (by omega) (by omega) (by omega) (by omega) (by omega))) (fun p9 hp99 => by
    have hold := IP1_pers h hp99
    by_cases hpp : p9 = p
    · rw [hpp, if_pos (Or.inr e1)]
      rw [hpp] at hold
      have htk : ∀ r j, tk (ent5 kd (Int32.ofNat p) (Int32.ofNat f) (Int32.ofNat t) (Int32.ofNat m)) (getP (82 + 12 * p) S) r j = (if r = 9 ∧ j = f then Int32.ofNat m else if r = 3 + t ∧ j = f then Int32.ofNat m else if kd = 1 ∧ r = 1 ∧ j = t then Int32.ofNat m else getP (82 + 12 * p) S r j) := fun r j => by
        have cf : (ent5 kd (Int32.ofNat p) (Int32.ofNat f) (Int32.ofNat t) (Int32.ofNat m) 2).toNatClampNeg = f := n32_c (k := f) (by omega)
        have ct : (ent5 kd (Int32.ofNat p) (Int32.ofNat f) (Int32.ofNat t) (Int32.ofNat m) 3).toNatClampNeg = t := n32_c (k := t) (by omega)
        have e0 : ent5 kd (Int32.ofNat p) (Int32.ofNat f) (Int32.ofNat t) (Int32.ofNat m) 0 = kd := rfl
        have e3 : ent5 kd (Int32.ofNat p) (Int32.ofNat f) (Int32.ofNat t) (Int32.ofNat m) 3 ≠ -1 := n32_m1 (k := t) (by omega)
        have e4 : ent5 kd (Int32.ofNat p) (Int32.ofNat f) (Int32.ofNat t) (Int32.ofNat m) 4 = Int32.ofNat m := rfl
        unfold tk
        rw [e0, if_pos hkd, cf, ct, e4]
        by_cases h9 : r = 9 ∧ j = f
        · rw [if_pos h9, if_pos h9]
        · rw [if_neg h9, if_neg h9]
          by_cases h8 : r = 3 + t ∧ j = f
          · rw [if_pos h8, if_pos ⟨e3, h8⟩]
          · rw [if_neg h8, if_neg (fun h => h8 h.2)]
      obtain ⟨o1, o2, o3⟩ := hold
      refine ⟨fun t9 ht9 => ?_, fun t9 ht9 f9 hf9 => ?_, fun f9 hf9 => ?_⟩
      · rw [htk, if_neg (by omega), if_neg (by omega), m381, Nat.zero_add]
        by_cases htt : t9 = t
        · rw [if_pos (show 20 * t9 + p = 20 * t + p by omega)]
          by_cases hk1 : kd = 1
          · rw [if_pos hk1, if_pos ⟨hk1, rfl, htt⟩]
            exact ⟨m + 1, by omega, n32_succ, by rw [n32_pred (by omega), Nat.add_sub_cancel]⟩
          · rw [if_neg hk1, if_neg (fun h => hk1 h.1)]
            refine ⟨k, hk, rfl, ?_⟩
            obtain ⟨k9, hk99, q1, q2⟩ := o1 t9 ht9
            rw [Nat.zero_add] at q2
            rw [htt, hk9] at q1
            rw [q2, ← q1]
        · rw [if_neg (show ¬ 20 * t9 + p = 20 * t + p by omega), if_neg (fun h => htt h.2.2)]
          have := o1 t9 ht9
          rw [Nat.zero_add] at this
          exact this
      · rw [htk, if_neg (by omega), m382, Nat.zero_add]
        by_cases htt : t9 = t ∧ f9 = f
        · rw [if_pos (by omega), if_pos (by omega), Int32_acs]
        · rw [if_neg (by omega), if_neg (show ¬ (kd = 1 ∧ 3 + t9 = 1 ∧ f9 = t) by omega), if_neg (by omega)]
          have := o2 t9 ht9 f9 hf9
          rw [Nat.zero_add] at this
          exact this
      · have := o3 f9 hf9
        rw [Nat.zero_add, Nat.zero_add, Nat.zero_add] at this
        obtain ⟨c1, c2, c3, c4, c5⟩ := this
        rw [Nat.zero_add, Nat.zero_add, Nat.zero_add, htk, htk, htk, if_neg (show ¬ (10 = 9 ∧ f9 = f) by omega), if_neg (show ¬ (10 = 3 + t ∧ f9 = f) by omega), if_neg (show ¬ (kd = 1 ∧ 10 = 1 ∧ f9 = t) by omega), if_neg (show ¬ (11 = 9 ∧ f9 = f) by omega), if_neg (show ¬ (11 = 3 + t ∧ f9 = f) by omega), if_neg (show ¬ (kd = 1 ∧ 11 = 1 ∧ f9 = t) by omega), m386, mo 384 _ (by omega) (by omega) (by omega) (by omega) (by omega), mo 385 _ (by omega) (by omega) (by omega) (by omega) (by omega)]
        refine ⟨?_, c2, c3, c4, fun t ht h9 => c5 t ht (by rw [← mo 383 t (by omega) (by omega) (by omega) (by omega) (by omega)]; exact h9)⟩
        by_cases hff : f9 = f
        · rw [if_pos ⟨rfl, hff⟩, if_pos (by omega), Int32_acs]
        · rw [if_neg (fun h => hff h.2), if_neg (show ¬ (9 = 3 + t ∧ f9 = f) from fun h => hff h.2), if_neg (show ¬ (kd = 1 ∧ 9 = 1 ∧ f9 = t) by omega), if_neg (by omega)]
          exact c1
    · have hne : ¬ (ent5 kd (Int32.ofNat p) (Int32.ofNat f) (Int32.ofNat t) (Int32.ofNat m) 1 = -1 ∨ ent5 kd (Int32.ofNat p) (Int32.ofNat f) (Int32.ofNat t) (Int32.ofNat m) 1 = Int32.ofNat p9) := by
        rw [e1]
        exact fun h => h.elim (fun h => n32_m1 (by omega) h) (fun h => hpp (n32_inj (by omega) (by omega) h).symm)
      rw [if_neg hne]
      refine IP1_c2 hold (fun _ _ _ => rfl) (fun t9 ht9 => by rw [m381, if_neg (by omega)]) (fun t9 ht9 f9 hf9 => by rw [m382, if_neg (by omega)]) (fun q f9 h1 h2 hf9 => ?_) (fun t ht h9 => by rw [mo 383 _ (by omega) (by omega) (by omega) (by omega) (by omega)] at h9; exact h9)
      by_cases hq6 : q = 386
      · rw [hq6, m386, if_neg (by omega)]
      · exact mo q _ (by omega) (by omega) hq6 (by omega) (by omega))
  exact ⟨S1, ee, hI⟩
/-- 17: show -/
theorem ag_17 {S SM : jS} {L : jLg} (h : InvL S L SM) : ∀ p1 p2, AGv (f_X10_show S L p1 p2) 1 2 0 (f_X11_show SM p1 p2) (fun S1 SM1 => InvL S1.1 S1.2 SM1) := fun p1 p2 => by
  by_cases hall : (0 ≤ p1 ∧ p1 ≤ 19) ∧ (0 ≤ p2 ∧ p2 ≤ 7)
  · obtain ⟨hp, hq⟩ := hall
    obtain ⟨p, hp9, rfl⟩ := n32_rg (n := 19) (by omega) hp
    obtain ⟨f, hf, rfl⟩ := n32_rg (n := 7) (by omega) hq
    obtain ⟨hlog, hlogM⟩ := f_log h (S2 := S)
    by_cases hc : L.length < 400
    · obtain ⟨G, eg, hfG, hg0, hvG, hmG⟩ := (inv_views (inv_thr (c := 0) h)).2.1
      have hfG : frM G SM := frM_t hfG frM_thrown
      have hg0 : G 358 0 = 0 := by rw [hg0, jset_at]
      have hv : ∀ o, o < 8 → G 376 (8 * p + o) = vwM SM p o := fun o ho => by rw [hvG p (by omega) o ho, vwM_thr h (by omega) ho]
      obtain ⟨S2, ev, hf2, _⟩ := f_viewNow h (fun _ _ => rfl) hp9 hf
      obtain ⟨tr, x29, hcl, hmo, htr⟩ := show_tr h hp9 hf hfG hmG hv
      obtain ⟨S4, et, hf4⟩ := hcl S2 hf2
      have eM : f_X11_show SM (Int32.ofNat p) (Int32.ofNat f) = joinK (fun (S42 : jS) => chk (inb (Int32.ofNat (8 * p + f)) 160) (letE (jset S42 386 (8 * p + f) ((vwM SM p f + (1 : Int32)))) fun S43 => letE (jset S43 358 30 (((S43 358 30) + (1 : Int32)))) fun S44 => some (0, vwM SM p f, S44))) (fun k30 => (if x29 < (0 : Int32) then k30 G else chk (inb ((((160 : Int32) * x29) + Int32.ofNat (8 * p + f))) 960) (letE (jset G 382 ((((160 : Int32) * x29) + Int32.ofNat (8 * p + f))).toNatClampNeg ((vwM SM p f + (1 : Int32)))) fun S31 => letE ((((20 : Int32) * x29) + Int32.ofNat p)) fun x32 => chk (inb x29 6) (joinK (fun (x37 : Int32) => chk (inb x32 120) (letE (jset S31 381 x32.toNatClampNeg x37) fun S38 => k30 S38)) (fun k33 => joinK (fun (_ : Unit) => chk (inb x32 120) (k33 (S31 381 x32.toNatClampNeg))) (fun k34 => (if (S31 380 x29.toNatClampNeg) = (0 : Int32) then chk (inb x32 120) ((if (S31 381 x32.toNatClampNeg) = (0 : Int32) then k33 ((vwM SM p f + (1 : Int32))) else k34 ())) else k34 ()))))))) := by
        unfold f_X11_show
        rw [m_person, jbin0_s, rg_1 hp]
        have e400 : ¬ SM 358 30 = 400 := fun h9 => hlogM.mp h9 hc
        have chn := hmo (fun x29 => joinK (fun (S42 : jS) => chk (inb (Int32.ofNat (8 * p + f)) 160) (letE (jset S42 386 (8 * p + f) ((vwM SM p f + (1 : Int32)))) fun S43 => letE (jset S43 358 30 (((S43 358 30) + (1 : Int32)))) fun S44 => some (0, vwM SM p f, S44))) (fun k30 => (if x29 < (0 : Int32) then k30 G else chk (inb ((((160 : Int32) * x29) + Int32.ofNat (8 * p + f))) 960) (letE (jset G 382 ((((160 : Int32) * x29) + Int32.ofNat (8 * p + f))).toNatClampNeg ((vwM SM p f + (1 : Int32)))) fun S31 => letE ((((20 : Int32) * x29) + Int32.ofNat p)) fun x32 => chk (inb x29 6) (joinK (fun (x37 : Int32) => chk (inb x32 120) (letE (jset S31 381 x32.toNatClampNeg x37) fun S38 => k30 S38)) (fun k33 => joinK (fun (_ : Unit) => chk (inb x32 120) (k33 (S31 381 x32.toNatClampNeg))) (fun k34 => (if (S31 380 x29.toNatClampNeg) = (0 : Int32) then chk (inb x32 120) ((if (S31 381 x32.toNatClampNeg) = (0 : Int32) then k33 ((vwM SM p f + (1 : Int32))) else k34 ())) else k34 ()))))))))
        refine Eq.trans ?_ chn
        conv => lhs; unfold joinK
        dsimp only
        rw [if_neg (by decide), m_flag, jbin0_s, rg_1 hq, if_neg (by decide), if_neg (by decide), if_neg e400, m_w0, jbin0_s, if_neg (by decide), eg, jbin0_s, n32_8]
        unfold letE
        dsimp only
        rw [chk_t (n32_inb (show 8 * p + f ≤ 100000 by omega) (by omega)), chk_t (n32_inb (show 8 * p + f ≤ 100000 by omega) (by omega)), n32_c (show 8 * p + f ≤ 1000 by omega), hv f (by omega)]
        rfl
      have cls : ∀ kd S1 e, f_X10_keeps S4 tr (Int32.ofNat p) = some (0, kd, ()) → (kd = 0 ∨ kd = 1) → e = ent5 kd (Int32.ofNat p) (Int32.ofNat f) tr (vwM SM p f) → f_X10_enter S4 L e = some (0, 0, (S1, L ++ [e])) → f_X10_show S L (Int32.ofNat p) (Int32.ofNat f) = some (0, vwM SM p f, (S1, L ++ [e])) := fun kd S1 e ek hkd he ee => by
        unfold f_X10_show joinK
        rw [f_per_y hp, jbind_s, f_flg_y hq, jbind_s, hlog, if_pos hc, jbind_s, ev, jbin0_s, et, jbin0_s, ek, jbin0_s]
        rw [he] at ee ⊢
        rcases hkd with hkd | hkd
        · rw [hkd] at ee ⊢
          dsimp only
          rw [if_pos rfl, ee, jbin0_s]
        · rw [hkd] at ee ⊢
          dsimp only
          rw [if_neg (by decide), ee, jbin0_s]
      rcases htr with ⟨rfl, hx⟩ | ⟨t, ht, rfl, rfl, m, hm, hvm⟩
      · obtain ⟨S1, ee, hI⟩ := show_A h hp9 hf hc hfG hf4 (vwM SM p f) (vwM_rg h (by omega) (by omega))
        refine AGv_ok (v := vwM SM p f) (S1 := (S1, L ++ [ent5 0 (Int32.ofNat p) (Int32.ofNat f) (-1) (vwM SM p f)])) (SM1 := jset (jset G 386 (8 * p + f) (vwM SM p f + 1)) 358 30 (G 358 30 + 1)) (cls 0 S1 _ ?_ (Or.inl rfl) rfl ee) ?_ (by rw [jset_ne (by omega), jset_ne (by omega)]; exact hg0) hI (vwM_big h (by omega) (by omega))
        · unfold f_X10_keeps joinK
          dsimp only
          rw [if_pos rfl]
          rfl
        · rw [eM]
          unfold joinK letE
          dsimp only
          rw [if_pos hx, chk_t (n32_inb (by omega) (by omega)), jset_ne (q := 358) (by omega)]
      · obtain ⟨k, hk4, q1, q2⟩ := (h.2.2.2.2.2.2.1 p (by omega)).1 t ht
        obtain ⟨_, _, ⟨st, hst, r1, r2⟩, _⟩ := h.2.2.2.2.2.1 t ht
        have e6 := in6 (show t ≤ 5 by omega)
        have ekp : f_X10_keeps S4 (Int32.ofNat t) (Int32.ofNat p) = some (0, (if st = 0 ∧ k = 0 then 1 else 0), ()) := by
          unfold f_X10_keeps joinK
          dsimp only
          rw [if_neg (n32_m1 (by omega)), chk_t e6, n32_c (show t ≤ 1000 by omega), hf4 _ (by omega), r2, chk_t (in20 hp9), chk_t e6, n32_c (show p ≤ 1000 by omega), hf4 _ (by omega), q2]
          simp only [n32_dec (show st ≤ 100000 by omega), n32_dec (show k ≤ 100000 by omega)]
          by_cases h1 : st = 0
          · rw [if_pos h1]
            by_cases h2 : k = 0
            · rw [if_pos h2, if_pos ⟨h1, h2⟩]
              rfl
            · rw [if_neg h2, if_neg (fun h => h2 h.2)]
              rfl
          · rw [if_neg h1, if_neg (fun h => h1 h.1)]
            rfl
        have hkd : (if st = 0 ∧ k = 0 then (1 : Int32) else 0) = 0 ∨ (if st = 0 ∧ k = 0 then (1 : Int32) else 0) = 1 := by
          by_cases h1 : st = 0 ∧ k = 0
          · rw [if_pos h1]
            exact Or.inr rfl
          · rw [if_neg h1]
            exact Or.inl rfl
        obtain ⟨S1, ee, hI⟩ := show_B (kd := if st = 0 ∧ k = 0 then 1 else 0) h hp9 hf ht hm hk4 q1 hc hfG hf4 hkd
        refine AGv_ok (v := vwM SM p f) (S1 := (S1, L ++ [ent5 (if st = 0 ∧ k = 0 then 1 else 0) (Int32.ofNat p) (Int32.ofNat f) (Int32.ofNat t) (Int32.ofNat m)])) (cls _ S1 _ ekp hkd (by rw [hvm]) ee) ?_ ?_ hI (vwM_big h (by omega) (by omega))
        · rw [eM, hvm, n32_160, n32_20]
          unfold joinK letE
          dsimp only
          have c1 : inb (Int32.ofNat (160 * t + (8 * p + f))) 960 = true := n32_inb (by omega) (by omega)
          have c2 : inb (Int32.ofNat (20 * t + p)) 120 = true := n32_inb (by omega) (by omega)
          have c3 : inb (Int32.ofNat (8 * p + f)) 160 = true := n32_inb (by omega) (by omega)
          have g380 : jset G 382 (160 * t + (8 * p + f)) (Int32.ofNat m + 1) 380 t = Int32.ofNat st := by rw [jset_ne (by omega), hfG 380 _ (by omega), r1]
          have g381 : jset G 382 (160 * t + (8 * p + f)) (Int32.ofNat m + 1) 381 (20 * t + p) = Int32.ofNat k := by rw [jset_ne (by omega), hfG 381 _ (by omega), q1]
          rw [if_neg (n32_nn (by omega)), n32_c (show 160 * t + (8 * p + f) ≤ 1000 by omega), n32_c (show 20 * t + p ≤ 1000 by omega), n32_c (show t ≤ 1000 by omega), g380, g381]
          simp only [chk_t c1, chk_t c2, chk_t c3, chk_t e6]
          have ez1 : (Int32.ofNat st = (0 : Int32)) = (st = 0) := n32_eq (b := 0) (by omega) (by omega)
          have ez2 : (Int32.ofNat k = (0 : Int32)) = (k = 0) := n32_eq (b := 0) (by omega) (by omega)
          have g358 : ∀ (x y : Int32), jset (jset (jset G 382 (160 * t + (8 * p + f)) (Int32.ofNat m + 1)) 381 (20 * t + p) x) 386 (8 * p + f) y 358 30 = G 358 30 := fun x y => by rw [jset_ne (by omega), jset_ne (by omega), jset_ne (by omega)]
          simp only [ez1, ez2, g358]
          by_cases h1 : st = 0
          · rw [if_pos h1]
            by_cases h2 : k = 0
            · rw [if_pos h2, if_pos (show (if st = 0 ∧ k = 0 then (1 : Int32) else 0) = 1 by rw [if_pos ⟨h1, h2⟩])]
            · rw [if_neg h2, if_neg (show ¬ (if st = 0 ∧ k = 0 then (1 : Int32) else 0) = 1 by rw [if_neg (fun h => h2 h.2)]; decide)]
          · rw [if_neg h1, if_neg (show ¬ (if st = 0 ∧ k = 0 then (1 : Int32) else 0) = 1 by rw [if_neg (fun h => h1 h.1)]; decide)]
        · rw [jset_ne (by omega), jset_ne (by omega), jset_ne (by omega), jset_ne (by omega)]
          exact hg0
    · refine AGv_2 (v := 0) (v2 := 0) (S1 := (S, L)) (SM1 := jset SM 358 0 2) ?_ ?_ jset_at (by decide) (inv_thr h)
      · unfold f_X10_show
        rw [f_per_y hp, jbind_s, f_flg_y hq, jbind_s, hlog, if_neg hc]
        rfl
      · unfold f_X11_show joinK
        rw [m_person, jbin0_s, rg_1 hp]
        dsimp only
        rw [if_neg (by decide), m_flag, jbin0_s, rg_1 hq, if_neg (by decide), if_neg (by decide), if_pos (hlogM.mpr hc), m_w2, jbin0_s, if_pos rfl]
  · refine AGv_1 (v := 0) (v2 := 0) (S1 := (S, L)) (SM1 := jset SM 358 0 1) ?_ ?_ jset_at (by decide) (inv_thr h)
    · unfold f_X10_show
      by_cases hp : 0 ≤ p1 ∧ p1 ≤ 19
      · rw [f_per_y hp, jbind_s, f_flg_n (fun hq => hall ⟨hp, hq⟩), jbind_t]
      · rw [f_per_n hp, jbind_t]
    · unfold f_X11_show joinK
      rw [m_person, jbin0_s]
      dsimp only
      by_cases hp : 0 ≤ p1 ∧ p1 ≤ 19
      · rw [rg_1 hp, if_neg (by decide), m_flag, jbin0_s, rg_0 (fun hq => hall ⟨hp, hq⟩), if_pos rfl, if_pos rfl, m_w1, jbin0_s, if_pos rfl]
      · rw [rg_0 hp, if_pos rfl, if_pos rfl, m_w1, jbin0_s, if_pos rfl]
end SHW
