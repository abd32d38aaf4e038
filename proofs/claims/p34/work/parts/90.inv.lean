section INV
def IPe (S SM : jS) : Prop := ∀ p, p < 20 → (∀ k, k < 3 → S (3 + p) k = SM 359 (3 * p + k)) ∧ S 23 p = SM 360 p ∧ ∀ k, k < 3 → (0 : Int32) ≤ SM 359 (3 * p + k)
def IDr (S SM : jS) : Prop := ∀ a, a < 6 → ∃ n, n ≤ 60 ∧ S (37 + 4 * a) 1 = Int32.ofNat n ∧ SM 362 a = Int32.ofNat n ∧ ∀ j, j < 60 → S (38 + 4 * a) j = SM 361 (60 * a + j) ∧ (0 ≤ S (38 + 4 * a) j ∧ S (38 + 4 * a) j ≤ 65535)
def ITx (S SM : jS) : Prop := ∃ (ns : Nat → Nat) (cs : Nat → Nat → Int32) (pos : Nat → Nat), RuC S ns cs ∧ (∀ a, a < 6 → SM 364 a = Int32.ofNat (ns a) ∧ ∀ j, j < 60 → S (40 + 4 * a) j = SM 363 (60 * a + j)) ∧ OrdC S 29 6 pos ∧ (∀ a, a < 6 → PosR pos ns cs a) ∧ (∀ a, a < 6 → RF (S 28 a) (cs a) (ns a)) ∧ ∀ a, a < 6 → FixM (fun p k => S (3 + p) k) (S 23) (S 30) ns cs a
def IFl (S SM : jS) : Prop := ∀ f, f < 8 → ∃ n, n ≤ 5 ∧ S (322 + 3 * f) 2 = Int32.ofNat n ∧ SM 372 f = Int32.ofNat n ∧ ∀ k, k < 5 → S (323 + 3 * f) k = SM 373 (5 * f + k) ∧ S (324 + 3 * f) k = SM 374 (5 * f + k) ∧ (∃ a, a < 6 ∧ SM 373 (5 * f + k) = Int32.ofNat a) ∧ ∃ o, o < 10 ∧ SM 374 (5 * f + k) = Int32.ofNat o
def INe (S SM : jS) : Prop := (∀ f, f < 8 → S 63 f = SM 375 f ∧ bits 8 (S 63 f)) ∧ ∃ pos, OrdC S 64 8 pos ∧ ∀ i, i < 8 → ∀ j, j < 8 → bt (S 63 i) j = true → pos j < pos i
def ITr (S SM : jS) : Prop := ∀ t, t < 6 → S (346 + 2 * t) 1 = SM 379 t ∧ (∃ s, s ≤ 1000 ∧ SM 379 t = Int32.ofNat s) ∧ (∃ s, s ≤ 4 ∧ SM 380 t = Int32.ofNat s ∧ S (346 + 2 * t) 2 = Int32.ofNat s - 1) ∧ S (346 + 2 * t) 3 = SM 383 t ∧ (SM 383 t = 0 ∨ SM 383 t = 1) ∧ ∀ v, v < 4 → S (347 + 2 * t) v = SM 378 (4 * t + v) ∧ ∃ s, s ≤ 100 ∧ SM 378 (4 * t + v) = Int32.ofNat s
/-- one person's past, class and model -/
def IP1 (b p : Nat) (S SM : jS) : Prop := (∀ t, t < 6 → ∃ k, k ≤ 4 ∧ SM 381 (20 * t + p) = Int32.ofNat k ∧ S (b + 1) t = Int32.ofNat k - 1) ∧ (∀ t, t < 6 → ∀ f, f < 8 → S (b + (3 + t)) f = SM 382 (160 * t + (8 * p + f)) - 1) ∧ ∀ f, f < 8 → S (b + 9) f = SM 386 (8 * p + f) - 1 ∧ S (b + 10) f = SM 384 (8 * p + f) ∧ S (b + 11) f = SM 385 (8 * p + f) ∧ bits 7 (SM 384 (8 * p + f)) ∧ ∀ t, t < 6 → SM 383 t = 0 → bt (SM 384 (8 * p + f)) t = false
def IPa (S SM : jS) : Prop := ∀ p, p < 20 → IP1 (82 + 12 * p) p S SM
/-- the cells of a past -/
def inP (r j : Nat) : Prop := (r = 1 ∧ j < 6) ∨ (3 ≤ r ∧ r ≤ 11 ∧ j < 8)
def getP (b : Nat) (S : jS) : jS := fun r j => if (r = 1 ∧ j < 6) ∨ (3 ≤ r ∧ r ≤ 11 ∧ j < 8) then S (b + r) j else 0
/-- a past that takes an entry -/
def tk (e : Nat → Int32) (P : jS) : jS := fun r j =>
  if e 0 = 0 ∨ e 0 = 1 then (if r = 9 ∧ j = (e 2).toNatClampNeg then e 4 else if e 3 ≠ -1 ∧ r = 3 + (e 3).toNatClampNeg ∧ j = (e 2).toNatClampNeg then e 4 else if e 0 = 1 ∧ r = 1 ∧ j = (e 3).toNatClampNeg then e 4 else P r j)
  else if e 0 = 2 then (if r = 10 ∧ j = (e 2).toNatClampNeg then wb (P 10 j) 6 1 else if r = 11 ∧ j = (e 2).toNatClampNeg then (if P 10 j = 0 then e 4 else P 11 j) else P r j)
  else if e 0 = 3 then (if r = 10 ∧ j = (e 2).toNatClampNeg then wb (P 10 j) 6 0 else P r j)
  else if e 0 = 4 then (if r = 10 ∧ j < 8 then (if P (3 + (e 3).toNatClampNeg) j = -1 then P 10 j else wb (P 10 j) (e 3) 1) else if r = 11 ∧ j < 8 then (if P (3 + (e 3).toNatClampNeg) j = -1 then P 11 j else if P 10 j = 0 then P (3 + (e 3).toNatClampNeg) j else P 11 j) else P r j)
  else if e 0 = 5 then (if r = 10 ∧ j < 8 then wb (P 10 j) (e 3) 0 else P r j)
  else (if r = 1 ∧ j = (e 3).toNatClampNeg then -1 else if r = 3 + (e 3).toNatClampNeg ∧ j < 8 then -1 else P r j)
/-- an entry as it can be -/
def EntOk (e : Nat → Int32) : Prop :=
  (e 0 = 0 ∧ (∃ f, f < 8 ∧ e 2 = Int32.ofNat f) ∧ (e 3 = -1 ∨ ∃ t, t < 6 ∧ e 3 = Int32.ofNat t)) ∨ (e 0 = 1 ∧ (∃ f, f < 8 ∧ e 2 = Int32.ofNat f) ∧ ∃ t, t < 6 ∧ e 3 = Int32.ofNat t) ∨
  (e 0 = 2 ∧ ∃ f, f < 8 ∧ e 2 = Int32.ofNat f) ∨ (e 0 = 3 ∧ ∃ f, f < 8 ∧ e 2 = Int32.ofNat f) ∨ (e 0 = 4 ∧ ∃ t, t < 6 ∧ e 3 = Int32.ofNat t) ∨ (e 0 = 5 ∧ ∃ t, t < 6 ∧ e 3 = Int32.ofNat t) ∨ (e 0 = 6 ∧ ∃ t, t < 6 ∧ e 3 = Int32.ofNat t)
/-- what an entry shows or freezes is a variant -/
def EntV (e : Nat → Int32) : Prop := (e 0 = 0 ∨ e 0 = 1 ∨ e 0 = 2) → ∃ k, k ≤ 3 ∧ e 4 = Int32.ofNat k
/-- the past of nothing -/
def P0 : jS := fun r j => if (r = 1 ∧ j < 6) ∨ (3 ≤ r ∧ r ≤ 9 ∧ j < 8) then -1 else 0
/-- what a log tells of a person -/
def foldP (L : jLg) (p : Int32) : jS := L.foldl (fun P e => if e 1 = -1 ∨ e 1 = p then tk e P else P) P0
def ILo (S SM : jS) (L : jLg) : Prop := L.length ≤ 400 ∧ SM 358 30 = Int32.ofNat L.length ∧ (∀ e, e ∈ L → EntOk e ∧ EntV e) ∧ ∀ p, p < 20 → getP (82 + 12 * p) S = foldP L (Int32.ofNat p)
def InvL (S : jS) (L : jLg) (SM : jS) : Prop := IPe S SM ∧ IDr S SM ∧ ITx S SM ∧ IFl S SM ∧ INe S SM ∧ ITr S SM ∧ IPa S SM ∧ ILo S SM L
theorem IPe_c {S SM S1 SM1 : jS} (h : IPe S SM) (hS : ∀ q j, 3 ≤ q → q ≤ 23 → S1 q j = S q j) (hM : ∀ q j, 359 ≤ q → q ≤ 360 → SM1 q j = SM q j) : IPe S1 SM1 := fun p hp => by
  obtain ⟨h1, h2, h3⟩ := h p hp
  refine ⟨fun k hk => ?_, ?_, fun k hk => ?_⟩
  · rw [hS _ _ (by omega) (by omega), hM 359 _ (by omega) (by omega)]
    exact h1 k hk
  · rw [hS _ _ (by omega) (by omega), hM 360 _ (by omega) (by omega)]
    exact h2
  · rw [hM 359 _ (by omega) (by omega)]
    exact h3 k hk
theorem IDr_c {S SM S1 SM1 : jS} (h : IDr S SM) (hS : ∀ a j, a < 6 → S1 (37 + 4 * a) j = S (37 + 4 * a) j ∧ S1 (38 + 4 * a) j = S (38 + 4 * a) j) (hM : ∀ q j, 361 ≤ q → q ≤ 362 → SM1 q j = SM q j) : IDr S1 SM1 := fun a ha => by
  obtain ⟨n, hn, h1, h2, h3⟩ := h a ha
  refine ⟨n, hn, ?_, ?_, fun j hj => ?_⟩
  · rw [(hS a 1 ha).1]
    exact h1
  · rw [hM 362 _ (by omega) (by omega)]
    exact h2
  · rw [(hS a j ha).2, hM 361 _ (by omega) (by omega)]
    exact h3 j hj
theorem ITx_c {S SM S1 SM1 : jS} (h : ITx S SM) (hS : ∀ q j, 3 ≤ q → q ≤ 30 → S1 q j = S q j) (hS2 : ∀ a j, a < 6 → S1 (39 + 4 * a) j = S (39 + 4 * a) j ∧ S1 (40 + 4 * a) j = S (40 + 4 * a) j) (hM : ∀ q j, 363 ≤ q → q ≤ 364 → SM1 q j = SM q j) : ITx S1 SM1 := by
  obtain ⟨ns, cs, pos, h1, h2, h3, h4, h5, h6⟩ := h
  refine ⟨ns, cs, pos, fun a ha => ?_, fun a ha => ?_, ⟨fun j hj => ?_, fun i hi => ?_⟩, h4, fun a ha => ?_, fun a ha => ?_⟩
  · obtain ⟨⟨a1, a2⟩, a3⟩ := h1 a ha
    exact ⟨⟨⟨a1.1, by rw [(hS2 a 1 ha).1]; exact a1.2⟩, fun j hj => by rw [show 39 + 4 * a + 1 = 40 + 4 * a by omega, (hS2 a j ha).2, ← show 39 + 4 * a + 1 = 40 + 4 * a by omega]; exact a2 j hj⟩, a3⟩
  · refine ⟨?_, fun j hj => ?_⟩
    · rw [hM 364 _ (by omega) (by omega)]
      exact (h2 a ha).1
    · rw [(hS2 a j ha).2, hM 363 _ (by omega) (by omega)]
      exact (h2 a ha).2 j hj
  · rw [hS 29 j (by omega) (by omega)]
    exact h3.1 j hj
  · rw [hS 29 _ (by omega) (by omega)]
    exact h3.2 i hi
  · rw [hS 28 a (by omega) (by omega)]
    exact h5 a ha
  · exact FixM_cong (h6 a ha) (fun p k hp => hS _ _ (by omega) (by omega)) (fun p hp => hS 23 p (by omega) (by omega)) (hS 30 a (by omega) (by omega)) (fun i hi h64 => hS 30 _ (by omega) (by omega))
theorem IFl_c {S SM S1 SM1 : jS} (h : IFl S SM) (hS : ∀ q j, 322 ≤ q → q ≤ 345 → S1 q j = S q j) (hM : ∀ q j, 372 ≤ q → q ≤ 374 → SM1 q j = SM q j) : IFl S1 SM1 := fun f hf => by
  obtain ⟨n, hn, h1, h2, h3⟩ := h f hf
  refine ⟨n, hn, ?_, ?_, fun k hk => ?_⟩
  · rw [hS _ _ (by omega) (by omega)]
    exact h1
  · rw [hM 372 _ (by omega) (by omega)]
    exact h2
  · rw [hS _ _ (by omega) (by omega), hS (324 + 3 * f) _ (by omega) (by omega), hM 373 _ (by omega) (by omega), hM 374 _ (by omega) (by omega)]
    exact h3 k hk
theorem INe_c {S SM S1 SM1 : jS} (h : INe S SM) (hS : ∀ q j, 63 ≤ q → q ≤ 64 → S1 q j = S q j) (hM : ∀ j, SM1 375 j = SM 375 j) : INe S1 SM1 := by
  have e63 : S1 63 = S 63 := funext fun j => hS 63 j (by omega) (by omega)
  obtain ⟨h1, pos, ⟨h2, h3⟩, h4⟩ := h
  refine ⟨fun f hf => ?_, pos, ⟨fun j hj => ?_, fun i hi => ?_⟩, ?_⟩
  · rw [e63, hM]
    exact h1 f hf
  · rw [hS 64 j (by omega) (by omega)]
    exact h2 j hj
  · rw [hS 64 _ (by omega) (by omega)]
    exact h3 i hi
  · rw [e63]
    exact h4
theorem ITr_c {S SM S1 SM1 : jS} (h : ITr S SM) (hS : ∀ q j, 346 ≤ q → q ≤ 357 → S1 q j = S q j) (hM : ∀ q j, (378 ≤ q ∧ q ≤ 380) ∨ q = 383 → SM1 q j = SM q j) : ITr S1 SM1 := fun t ht => by
  obtain ⟨h1, h2, h3, h4, h5, h6⟩ := h t ht
  rw [hS _ _ (by omega) (by omega), hS (346 + 2 * t) 2 (by omega) (by omega), hS (346 + 2 * t) 3 (by omega) (by omega), hM 379 _ (by omega), hM 380 _ (by omega), hM 383 _ (by omega)]
  refine ⟨h1, h2, h3, h4, h5, fun v hv => ?_⟩
  rw [hS _ _ (by omega) (by omega), hM 378 _ (by omega)]
  exact h6 v hv
theorem IP1_c {b b1 p : Nat} {S SM S1 SM1 : jS} (h : IP1 b p S SM) (hS : ∀ r j, inP r j → S1 (b1 + r) j = S (b + r) j) (hM : ∀ q j, 381 ≤ q → q ≤ 386 → SM1 q j = SM q j) : IP1 b1 p S1 SM1 := by
  obtain ⟨h1, h2, h3⟩ := h
  refine ⟨fun t ht => ?_, fun t ht f hf => ?_, fun f hf => ?_⟩
  · rw [hS 1 t (Or.inl ⟨rfl, ht⟩), hM 381 _ (by omega) (by omega)]
    exact h1 t ht
  · rw [hS (3 + t) f (Or.inr ⟨by omega, by omega, hf⟩), hM 382 _ (by omega) (by omega)]
    exact h2 t ht f hf
  · have e383 : ∀ t, SM1 383 t = SM 383 t := fun t => hM 383 t (by omega) (by omega)
    rw [hS 9 f (Or.inr ⟨by omega, by omega, hf⟩), hS 10 f (Or.inr ⟨by omega, by omega, hf⟩), hS 11 f (Or.inr ⟨by omega, by omega, hf⟩), hM 386 _ (by omega) (by omega), hM 384 _ (by omega) (by omega), hM 385 _ (by omega) (by omega)]
    obtain ⟨a1, a2, a3, a4, a5⟩ := h3 f hf
    refine ⟨a1, a2, a3, a4, fun t ht h9 => ?_⟩
    rw [e383] at h9
    exact a5 t ht h9
theorem inP_le {r j : Nat} (h : inP r j) : 1 ≤ r ∧ r ≤ 11 := by
  rcases h with h | h <;> omega
theorem IPa_c {S SM S1 SM1 : jS} (h : IPa S SM) (hS : ∀ q j, 82 ≤ q → q ≤ 321 → S1 q j = S q j) (hM : ∀ q j, 381 ≤ q → q ≤ 386 → SM1 q j = SM q j) : IPa S1 SM1 := fun p hp => IP1_c (h p hp) (fun r j hr => by
  have := inP_le hr
  exact hS _ _ (by omega) (by omega)) hM
theorem getP_c {b b1 : Nat} {S S1 : jS} (hS : ∀ r j, inP r j → S1 (b1 + r) j = S (b + r) j) : getP b1 S1 = getP b S := by
  funext r j
  unfold getP
  by_cases h : (r = 1 ∧ j < 6) ∨ (3 ≤ r ∧ r ≤ 11 ∧ j < 8)
  · rw [if_pos h, if_pos h]
    exact hS r j h
  · rw [if_neg h, if_neg h]
theorem ILo_c {S SM S1 SM1 : jS} {L : jLg} (h : ILo S SM L) (hS : ∀ q j, 82 ≤ q → q ≤ 321 → S1 q j = S q j) (hM : SM1 358 30 = SM 358 30) : ILo S1 SM1 L := by
  obtain ⟨h1, h2, h3, h4⟩ := h
  refine ⟨h1, by rw [hM]; exact h2, h3, fun p hp => ?_⟩
  rw [← h4 p hp]
  exact getP_c fun r j hr => by
    have := inP_le hr
    exact hS _ _ (by omega) (by omega)
/-- all but what a question leaves behind -/
def frX (S1 S : jS) : Prop := ∀ q j, (q ≤ 30 ∨ (37 ≤ q ∧ q ≤ 67) ∨ 82 ≤ q) → S1 q j = S q j
def frM (S1 S : jS) : Prop := ∀ q j, ((q = 358 ∧ j = 30) ∨ (359 ≤ q ∧ q ≤ 364) ∨ (372 ≤ q ∧ q ≤ 375) ∨ 378 ≤ q) → S1 q j = S q j
theorem frX_r {S : jS} : frX S S := fun _ _ _ => rfl
theorem frM_r {S : jS} : frM S S := fun _ _ _ => rfl
theorem frX_t {S S1 S2 : jS} (h : frX S2 S1) (h1 : frX S1 S) : frX S2 S := fun q j hq => (h q j hq).trans (h1 q j hq)
theorem frM_t {S S1 S2 : jS} (h : frM S2 S1) (h1 : frM S1 S) : frM S2 S := fun q j hq => (h q j hq).trans (h1 q j hq)
theorem frM_thrown {S : jS} {v : Int32} : frM (jset S 358 0 v) S := fun q j hq => jset_ne (by omega)
theorem inv_fr {S SM S1 SM1 : jS} {L : jLg} (h : InvL S L SM) (hS : frX S1 S) (hM : frM SM1 SM) : InvL S1 L SM1 := by
  obtain ⟨h1, h2, h3, h4, h5, h6, h7, h8⟩ := h
  exact ⟨IPe_c h1 (fun q j _ _ => hS q j (by omega)) (fun q j _ _ => hM q j (by omega)), IDr_c h2 (fun a j ha => ⟨hS _ _ (by omega), hS _ _ (by omega)⟩) (fun q j _ _ => hM q j (by omega)),
    ITx_c h3 (fun q j _ _ => hS q j (by omega)) (fun a j ha => ⟨hS _ _ (by omega), hS _ _ (by omega)⟩) (fun q j _ _ => hM q j (by omega)), IFl_c h4 (fun q j _ _ => hS q j (by omega)) (fun q j _ _ => hM q j (by omega)),
    INe_c h5 (fun q j _ _ => hS q j (by omega)) (fun j => hM 375 j (by omega)), ITr_c h6 (fun q j _ _ => hS q j (by omega)) (fun q j hq => hM q j (by omega)), IPa_c h7 (fun q j _ _ => hS q j (by omega)) (fun q j _ _ => hM q j (by omega)),
    ILo_c h8 (fun q j _ _ => hS q j (by omega)) (hM 358 30 (by omega))⟩
end INV
