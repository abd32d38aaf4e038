section SET
/-- a text of the class with its signs -/
def TxS (S : jS) (b n : Nat) (c : Nat → Int32) : Prop := TxC S b n ∧ ∀ j, j < n → S (b + 1) j = c j
/-- all rules of the class -/
def RuC (S : jS) (ns : Nat → Nat) (cs : Nat → Nat → Int32) : Prop := ∀ a, a < 6 → TxS S (39 + 4 * a) (ns a) (cs a) ∧ (ns a = 0 ∨ Valid (cs a) (ns a))
/-- members as all rules say -/
def FixM (ats : Nat → Nat → Int32) (tgs M : Nat → Int32) (ns : Nat → Nat) (cs : Nat → Nat → Int32) (a : Nat) : Prop := bits 20 (M a) ∧ ∀ p, p < 20 → bt (M a) p = ev (tst ats tgs M (cs a) (ns a) p) (cs a) (ns a)
/-- an order of n things in a row of the class -/
def OrdC (S : jS) (o n : Nat) (pos : Nat → Nat) : Prop := (∀ j, j < n → ∃ i, i < n ∧ S o j = Int32.ofNat i ∧ pos i = j) ∧ ∀ i, i < n → pos i < n ∧ S o (pos i) = Int32.ofNat i
/-- what a rule refers to comes before it -/
def PosR (pos : Nat → Nat) (ns : Nat → Nat) (cs : Nat → Nat → Int32) (a : Nat) : Prop := ∀ i, i < ns a → cs a i = 64 → pos (dgt (cs a (i + 1))) < pos a
theorem ref_lt {c : Nat → Int32} {n i : Nat} (hv : n = 0 ∨ Valid c n) (hi : i < n) (h : c i = 64) : dgt (c (i + 1)) < 6 := by
  have hv : Valid c n := hv.resolve_left (by omega)
  obtain ⟨_, h5⟩ := v_ref hv hi h
  obtain ⟨d, hd, _, e5⟩ := dg_of (m := 5) (by omega) h5
  omega
theorem FixM_cong {ats ats1 : Nat → Nat → Int32} {tgs tgs1 M M1 : Nat → Int32} {ns : Nat → Nat} {cs : Nat → Nat → Int32} {a : Nat} (h : FixM ats tgs M ns cs a) (ha : ∀ p k, p < 20 → ats1 p k = ats p k) (ht : ∀ p, p < 20 → tgs1 p = tgs p) (hM : M1 a = M a) (hr : ∀ i, i < ns a → cs a i = 64 → M1 (dgt (cs a (i + 1))) = M (dgt (cs a (i + 1)))) : FixM ats1 tgs1 M1 ns cs a := by
  refine ⟨by rw [hM]; exact h.1, fun p hp => ?_⟩
  rw [hM, h.2 p hp]
  refine ev_cong (fun _ _ => rfl) fun i hi _ => ?_
  unfold tst
  rw [ha p _ hp, ht p hp]
  by_cases h64 : cs a i = 64
  · rw [hr i hi h64]
  · rw [if_neg h64, if_neg h64]
/-- all but a row and the rows of the reader -/
def frS (m : Nat) (S1 S : jS) : Prop := ∀ q j, q ≠ m → (q < 33 ∨ 36 < q) → S1 q j = S q j
theorem RuC_fr {m : Nat} {S S1 : jS} {ns : Nat → Nat} {cs : Nat → Nat → Int32} (hm : m < 37) (hf : frS m S1 S) (h : RuC S ns cs) : RuC S1 ns cs := fun a ha => by
  obtain ⟨⟨h1, h2⟩, h3⟩ := h a ha
  exact ⟨⟨⟨h1.1, (hf _ _ (by omega) (by omega)).trans h1.2⟩, fun j hj => (hf _ _ (by omega) (by omega)).trans (h2 j hj)⟩, h3⟩
theorem f_settle {S : jS} {ns pos : Nat → Nat} {cs : Nat → Nat → Int32} (hR : RuC S ns cs) (hO : OrdC S 29 6 pos) (hP : ∀ a, a < 6 → PosR pos ns cs a) :
    ∃ S1, f_X0_settle S = some (0, 0, S1) ∧ frS 30 S1 S ∧ ∀ a, a < 6 → FixM (fun p k => S (3 + p) k) (S 23) (S1 30) ns cs a := by
  suffices hw : wq (f_X0_settle S) (fun t v S1 => t = 0 ∧ v = 0 ∧ frS 30 S1 S ∧ ∀ a, a < 6 → FixM (fun p k => S (3 + p) k) (S 23) (S1 30) ns cs a) by
    obtain ⟨t, v, S1, e, rfl, rfl, h3⟩ := wq_ex hw
    exact ⟨S1, e, h3⟩
  unfold f_X0_settle
  refine wq_for (fun (K : jS → Int32 → Option (jR jS)) i (b : jS) => K b i) 6 (fun i b => frS 30 b S ∧ ∀ a, a < 6 → pos a < i → FixM (fun p k => S (3 + p) k) (S 23) (b 30) ns cs a) (fun rec i b hi hb ih => ?_) (fun rec b hb => ?_) 6 0 1000 S (by omega) (by omega) ⟨fun _ _ _ _ => rfl, fun a _ h => absurd h (Nat.not_lt_zero _)⟩
  · obtain ⟨hf, hF⟩ := hb
    have e1 : ((6 : Int32) ≤ Int32.ofNat i) = (6 ≤ i) := n32_le (n := 6) (by omega) (by omega)
    refine wq_ite (fun h => absurd (Eq.mp e1 h) (by omega)) (fun _ => wq_chk (n32_inb (by omega) hi) (wq_let ?_))
    obtain ⟨a, ha, ea, epa⟩ := hO.1 i hi
    have eo : b (27 + 2) (Int32.ofNat i).toNatClampNeg = Int32.ofNat a := by
      rw [n32_cl (by omega), hf 29 i (by omega) (by omega)]
      exact ea
    rw [eo]
    refine wq_chk (n32_inb (by omega) ha) ?_
    obtain ⟨⟨h1, h2⟩, h3⟩ := RuC_fr (by omega) hf hR a ha
    rw [n32_cl (show a ≤ 100000 by omega)]
    obtain ⟨W, S1, eW, hW, hb, hfr⟩ := f_whoMeets (a3 := 30) h3 h1 h2 (by omega) (by omega) (by omega)
    rw [eW, jbin0_s]
    refine wq_chk (n32_inb (by omega) ha) (wq_let (wq_let ?_))
    rw [n32_succ]
    refine ih _ ⟨fun q j hq hq2 => ?_, fun o ho hpo => ?_⟩
    · rw [jset_ne (by omega), hfr q j hq2]
      exact hf q j hq hq2
    · have e30 : ∀ o, o ≠ a → jset S1 30 a W 30 o = b 30 o := fun o ho => by
        rw [jset_ne (by omega), hfr 30 o (by omega)]
      have hnr : ∀ i', i' < ns o → cs o i' = 64 → dgt (cs o (i' + 1)) ≠ a := fun i' hi' h64 hda => by
        have := hP o ho i' hi' h64
        rw [hda] at this
        omega
      by_cases hoa : o = a
      · subst hoa
        refine ⟨by rw [jset_at]; exact hW, fun p hp => ?_⟩
        rw [jset_at, hb p hp]
        refine ev_cong (fun _ _ => rfl) fun i' hi' _ => ?_
        unfold tst
        dsimp only
        rw [hf (3 + p) _ (by omega) (by omega), hf 23 p (by omega) (by omega)]
        by_cases h64 : cs o i' = 64
        · rw [e30 _ (hnr i' hi' h64)]
        · rw [if_neg h64, if_neg h64]
      · have hlt : pos o < i := by
          have h9 : pos o ≠ i := fun h9 => by
            have h8 := (hO.2 o ho).2
            have h7 := (hO.2 a ha).2
            rw [h9] at h8
            rw [epa] at h7
            rw [h8] at h7
            exact hoa (n32_inj (by omega) (by omega) h7)
          omega
        exact FixM_cong (hF o ho hlt) (fun _ _ _ => rfl) (fun _ _ => rfl) (e30 o hoa) (fun i' hi' h64 => e30 _ (hnr i' hi' h64))
  · refine wq_ite (fun _ => ?_) (fun h => absurd (by decide) h)
    exact ⟨rfl, rfl, hb.1, fun a ha => hb.2 a ha (hO.2 a ha).1⟩
/-- one audience's text, put in place of another -/
def putN (ns : Nat → Nat) (a n : Nat) : Nat → Nat := fun o => if o = a then n else ns o
def putC (cs : Nat → Nat → Int32) (a : Nat) (c : Nat → Int32) : Nat → Nat → Int32 := fun o => if o = a then c else cs o
theorem f_tryDraft {S : jS} {ns pos : Nat → Nat} {cs : Nat → Nat → Int32} {a0 n : Nat} {c : Nat → Int32} (ha0 : a0 < 6) (hR : RuC S ns cs) (hO : OrdC S 29 6 pos) (hP : ∀ a, a < 6 → PosR pos ns cs a)
    (hd : TxS S (37 + 4 * a0) n c) (hv : Valid c n) (hF : ∀ a, a < 6 → FixM (fun p k => S (3 + p) k) (S 23) (S 30) ns cs a) (R : Nat → Prop) (hR0 : ¬ R a0) (hR1 : ∀ i, i < n → c i = 64 → R (dgt (c (i + 1)))) (hR2 : ∀ a, a < 6 → R a → ∀ i, i < ns a → cs a i = 64 → R (dgt (cs a (i + 1)))) :
    ∃ S1, f_X0_tryDraft S (Int32.ofNat a0) = some (0, 0, S1) ∧ frS 31 S1 S ∧ ∀ a, a < 6 → FixM (fun p k => S (3 + p) k) (S 23) (S1 31) (putN ns a0 n) (putC cs a0 c) a := by
  suffices hw : wq (f_X0_tryDraft S (Int32.ofNat a0)) (fun t v S1 => t = 0 ∧ v = 0 ∧ frS 31 S1 S ∧ ∀ a, a < 6 → FixM (fun p k => S (3 + p) k) (S 23) (S1 31) (putN ns a0 n) (putC cs a0 c) a) by
    obtain ⟨t, v, S1, e, rfl, rfl, h3⟩ := wq_ex hw
    exact ⟨S1, e, h3⟩
  have c0 : inb (Int32.ofNat a0) 6 = true := n32_inb (by omega) ha0
  have e0 : (Int32.ofNat a0).toNatClampNeg = a0 := n32_cl (by omega)
  unfold f_X0_tryDraft
  refine wq_chk c0 ?_
  rw [e0]
  obtain ⟨W, S1, eW, hW, hb, hfr⟩ := f_whoMeets (a3 := 30) (Or.inr hv) hd.1 hd.2 (by omega) (by omega) (by omega)
  rw [eW, jbin0_s]
  refine wq_chk c0 (wq_let ?_)
  refine wq_for (fun (K : jS → Int32 → Option (jR jS)) i (b : jS) => K b i) 6 (fun i b => frS 31 b S ∧ b 31 a0 = W ∧ ∀ a, a < 6 → a ≠ a0 → pos a < i → FixM (fun p k => S (3 + p) k) (S 23) (b 31) ns cs a) (fun rec i b hi hb ih => ?_) (fun rec b hb2 => ?_) 6 0 1000 (jset S1 31 a0 W) (by omega) (by omega) ⟨fun q j hq hq2 => ?_, jset_at, fun a _ _ h => absurd h (Nat.not_lt_zero _)⟩
  · obtain ⟨hf, hbW, hF⟩ := hb
    have e1 : ((6 : Int32) ≤ Int32.ofNat i) = (6 ≤ i) := n32_le (n := 6) (by omega) (by omega)
    refine wq_ite (fun h => absurd (Eq.mp e1 h) (by omega)) (fun _ => wq_chk (n32_inb (by omega) hi) (wq_let ?_))
    obtain ⟨a, ha, ea, epa⟩ := hO.1 i hi
    have eo : b (27 + 2) (Int32.ofNat i).toNatClampNeg = Int32.ofNat a := by
      rw [n32_cl (by omega), hf 29 i (by omega) (by omega)]
      exact ea
    have hinj : ∀ o, o < 6 → pos o < i + 1 → o ≠ a → pos o < i := fun o ho hpo hoa => by
      have h9 : pos o ≠ i := fun h9 => by
        have h8 := (hO.2 o ho).2
        have h7 := (hO.2 a ha).2
        rw [h9] at h8
        rw [epa] at h7
        rw [h8] at h7
        exact hoa (n32_inj (by omega) (by omega) h7)
      omega
    rw [eo]
    refine wq_join fun k9 hk9 => wq_ite (fun hz => ?_) (fun hz => ?_)
    · have hz := n32_inj (by omega) (by omega) hz
      rw [hk9]
      dsimp only
      rw [n32_succ]
      exact wq_let (ih _ ⟨hf, hbW, fun o ho hoa hpo => hF o ho hoa (hinj o ho hpo (by rw [hz]; exact hoa))⟩)
    · have haa : a ≠ a0 := fun h => hz (by rw [h])
      refine wq_chk (n32_inb (by omega) ha) ?_
      obtain ⟨⟨h1, h2⟩, h3⟩ := RuC_fr (by omega) hf hR a ha
      rw [n32_cl (show a ≤ 100000 by omega)]
      obtain ⟨W1, S2, eW1, hW1, hb1, hfr1⟩ := f_whoMeets (a3 := 31) h3 h1 h2 (by omega) (by omega) (by omega)
      rw [eW1, jbin0_s]
      refine wq_chk (n32_inb (by omega) ha) (wq_let ?_)
      rw [hk9]
      dsimp only
      rw [n32_succ]
      refine wq_let (ih _ ⟨fun q j hq hq2 => ?_, ?_, fun o ho hoa hpo => ?_⟩)
      · rw [jset_ne (by omega), hfr1 q j hq2]
        exact hf q j hq hq2
      · rw [jset_ne (by omega), hfr1 31 a0 (by omega)]
        exact hbW
      · have e31 : ∀ o, o ≠ a → jset S2 31 a W1 31 o = b 31 o := fun o ho => by
          rw [jset_ne (by omega), hfr1 31 o (by omega)]
        have hnr : ∀ i', i' < ns o → cs o i' = 64 → dgt (cs o (i' + 1)) ≠ a := fun i' hi' h64 hda => by
          have := hP o ho i' hi' h64
          rw [hda] at this
          omega
        by_cases hoa2 : o = a
        · subst hoa2
          refine ⟨by rw [jset_at]; exact hW1, fun p hp => ?_⟩
          rw [jset_at, hb1 p hp]
          refine ev_cong (fun _ _ => rfl) fun i' hi' _ => ?_
          unfold tst
          dsimp only
          rw [hf (3 + p) _ (by omega) (by omega), hf 23 p (by omega) (by omega)]
          by_cases h64 : cs o i' = 64
          · rw [e31 _ (hnr i' hi' h64)]
          · rw [if_neg h64, if_neg h64]
        · exact FixM_cong (hF o ho hoa (hinj o ho hpo hoa2)) (fun _ _ _ => rfl) (fun _ _ => rfl) (e31 o hoa2) (fun i' hi' h64 => e31 _ (hnr i' hi' h64))
  · obtain ⟨hf, hbW, hF1⟩ := hb2
    refine wq_ite (fun _ => ?_) (fun h => absurd (by decide) h)
    refine ⟨rfl, rfl, hf, ?_⟩
    -- what the draft refers to stays
    have same : ∀ k a, a < 6 → R a → pos a < k → b 31 a = S 30 a := by
      intro k
      induction k with
      | zero => exact fun a _ _ h => absurd h (Nat.not_lt_zero _)
      | succ k ihk =>
        intro a ha hRa hpa
        have hne : a ≠ a0 := fun h => hR0 (h ▸ hRa)
        have f1 := hF1 a ha hne (hO.2 a ha).1
        have f0 := hF a ha
        refine bits_ext f1.1 f0.1 fun p hp => ?_
        rw [f1.2 p hp, f0.2 p hp]
        refine ev_cong (fun _ _ => rfl) fun i hi _ => tst_cong fun h64 => ?_
        have hlt := ref_lt (hR a ha).2 hi h64
        have := hP a ha i hi h64
        exact ihk _ hlt (hR2 a ha hRa i hi h64) (by omega)
    intro a ha
    by_cases haa : a = a0
    · subst haa
      have en : putN ns a n a = n := if_pos rfl
      have ec : putC cs a c a = c := if_pos rfl
      unfold FixM
      rw [en, ec, hbW]
      refine ⟨hW, fun p hp => ?_⟩
      rw [hb p hp]
      refine ev_cong (fun _ _ => rfl) fun i hi _ => tst_cong fun h64 => ?_
      have hlt := ref_lt (Or.inr hv) hi h64
      exact (same 6 _ hlt (hR1 i hi h64) (hO.2 _ hlt).1).symm
    · have en : putN ns a0 n a = ns a := if_neg haa
      have ec : putC cs a0 c a = cs a := if_neg haa
      have := hF1 a ha haa (hO.2 a ha).1
      unfold FixM at this ⊢
      rw [en, ec]
      exact this
  · rw [jset_ne (by omega)]
    exact hfr q j hq2
end SET
