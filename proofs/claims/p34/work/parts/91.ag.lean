section AGR
variable {σ : Type} {oc : Option (jR σ)} {c1 c2 c3 : Int32} {om : Option (jR jS)} {I : σ → jS → Prop}
theorem AG_ok {v : Int32} {S1 : σ} {SM1 : jS} (h1 : oc = some (0, v, S1)) (h2 : om = some (0, v, SM1)) (h3 : SM1 358 0 = 0) (h4 : I S1 SM1) : AG oc c1 c2 c3 om I := Or.inl ⟨v, S1, SM1, h1, h2, h3, h4⟩
theorem AG_1 {v v2 : Int32} {S1 : σ} {SM1 : jS} (h1 : oc = some (1, v, S1)) (h2 : om = some (0, v2, SM1)) (h3 : SM1 358 0 = c1) (hc : c1 ≠ 0) (h4 : I S1 SM1) : AG oc c1 c2 c3 om I := Or.inr (Or.inl ⟨v, v2, S1, SM1, h1, h2, h3, hc, h4⟩)
theorem AG_2 {v v2 : Int32} {S1 : σ} {SM1 : jS} (h1 : oc = some (2, v, S1)) (h2 : om = some (0, v2, SM1)) (h3 : SM1 358 0 = c2) (hc : c2 ≠ 0) (h4 : I S1 SM1) : AG oc c1 c2 c3 om I := Or.inr (Or.inr (Or.inl ⟨v, v2, S1, SM1, h1, h2, h3, hc, h4⟩))
theorem AG_3 {v v2 : Int32} {S1 : σ} {SM1 : jS} (h1 : oc = some (3, v, S1)) (h2 : om = some (0, v2, SM1)) (h3 : SM1 358 0 = c3) (hc : c3 ≠ 0) (h4 : I S1 SM1) : AG oc c1 c2 c3 om I := Or.inr (Or.inr (Or.inr ⟨v, v2, S1, SM1, h1, h2, h3, hc, h4⟩))
end AGR
section AGC
/-- the model, where it throws c -/
def thr (om : Option (jR jS)) (SM : jS) (c : Int32) : Prop := ∃ v, om = some (0, v, jset SM 358 0 c)
theorem inv_thr {S SM : jS} {L : jLg} {c : Int32} (h : InvL S L SM) : InvL S L (jset SM 358 0 c) := inv_fr h frX_r frM_thrown
theorem f_aud_n {p : Int32} (h : ¬ (0 ≤ p ∧ p ≤ 5)) : f_X10_checkAudience p = some (0 + 1, 0, ()) := by rw [f_audience, if_neg h]
theorem f_aud_y {p : Int32} (h : 0 ≤ p ∧ p ≤ 5) : f_X10_checkAudience p = some (0, 0, ()) := by rw [f_audience, if_pos h]
theorem f_per_n {p : Int32} (h : ¬ (0 ≤ p ∧ p ≤ 19)) : f_X10_checkPerson p = some (0 + 1, 0, ()) := by rw [f_person, if_neg h]
theorem f_per_y {p : Int32} (h : 0 ≤ p ∧ p ≤ 19) : f_X10_checkPerson p = some (0, 0, ()) := by rw [f_person, if_pos h]
theorem f_flg_n {p : Int32} (h : ¬ (0 ≤ p ∧ p ≤ 7)) : f_X10_checkFlag p = some (0 + 1, 0, ()) := by rw [f_flag, if_neg h]
theorem f_flg_y {p : Int32} (h : 0 ≤ p ∧ p ≤ 7) : f_X10_checkFlag p = some (0, 0, ()) := by rw [f_flag, if_pos h]
theorem f_tri_n {p : Int32} (h : ¬ (0 ≤ p ∧ p ≤ 5)) : f_X10_checkTrial p = some (0 + 1, 0, ()) := by rw [f_trial, if_neg h]
theorem f_tri_y {p : Int32} (h : 0 ≤ p ∧ p ≤ 5) : f_X10_checkTrial p = some (0, 0, ()) := by rw [f_trial, if_pos h]
theorem f_rng_n {p a b : Int32} (h : ¬ (a ≤ p ∧ p ≤ b)) : f_X10_checkRange p a b = some (0 + 1, 0, ()) := by rw [f_range, if_neg h]
theorem f_rng_y {p a b : Int32} (h : a ≤ p ∧ p ≤ b) : f_X10_checkRange p a b = some (0, 0, ()) := by rw [f_range, if_pos h]
theorem f_var_n {p : Int32} (h : ¬ (0 ≤ p ∧ p ≤ 3)) : f_X10_checkVariant p = some (0 + 1, 0, ()) := by
  unfold f_X10_checkVariant
  rw [f_rng_n h, jbind_t]
theorem f_var_y {p : Int32} (h : 0 ≤ p ∧ p ≤ 3) : f_X10_checkVariant p = some (0, 0, ()) := by
  unfold f_X10_checkVariant
  rw [f_rng_y h, jbind_s]
theorem m_w0 {S : jS} : f_X11_goesWell S 0 = some (0, 1, jset S 358 0 0) := m_well
theorem m_w1 {S : jS} : f_X11_goesWell S 1 = some (0, 0, jset S 358 0 1) := m_well
theorem m_w2 {S : jS} : f_X11_goesWell S 2 = some (0, 0, jset S 358 0 2) := m_well
theorem m_w3 {S : jS} : f_X11_goesWell S 3 = some (0, 0, jset S 358 0 3) := m_well
theorem in6 {k : Nat} (h : k ≤ 5) : inb (Int32.ofNat k) 6 = true := n32_inb (by omega) (by omega)
theorem in8 {k : Nat} (h : k ≤ 7) : inb (Int32.ofNat k) 8 = true := n32_inb (by omega) (by omega)
theorem in20 {k : Nat} (h : k ≤ 19) : inb (Int32.ofNat k) 20 = true := n32_inb (by omega) (by omega)
theorem n32_c {k : Nat} (h : k ≤ 1000) : (Int32.ofNat k).toNatClampNeg = k := n32_cl (by omega)
theorem n32_20 {a i : Nat} : (20 : Int32) * Int32.ofNat a + Int32.ofNat i = Int32.ofNat (20 * a + i) := by
  rw [Int32.ofNat_add, Int32.ofNat_mul]
  rfl
theorem n32_8 {a i : Nat} : (8 : Int32) * Int32.ofNat a + Int32.ofNat i = Int32.ofNat (8 * a + i) := by
  rw [Int32.ofNat_add, Int32.ofNat_mul]
  rfl
theorem n32_5 {a i : Nat} : (5 : Int32) * Int32.ofNat a + Int32.ofNat i = Int32.ofNat (5 * a + i) := by
  rw [Int32.ofNat_add, Int32.ofNat_mul]
  rfl
theorem n32_4 {a i : Nat} : (4 : Int32) * Int32.ofNat a + Int32.ofNat i = Int32.ofNat (4 * a + i) := by
  rw [Int32.ofNat_add, Int32.ofNat_mul]
  rfl
theorem n32_160 {a i : Nat} : (160 : Int32) * Int32.ofNat a + Int32.ofNat i = Int32.ofNat (160 * a + i) := by
  rw [Int32.ofNat_add, Int32.ofNat_mul]
  rfl
/-- 11: rules -/
theorem ag_11 {S SM : jS} {L : jLg} (h : InvL S L SM) : ∀ p1, AG (f_X10_rules S p1) 1 0 0 (f_X11_rules SM p1) (fun _ SM1 => InvL S L SM1) := fun p1 => by
  rw [f_rules, m_rules]
  by_cases hp : 0 ≤ p1 ∧ p1 ≤ 7
  · rw [if_pos hp, if_pos hp]
    obtain ⟨f, hf, rfl⟩ := n32_rg (n := 7) (by omega) hp
    obtain ⟨n, _, e1, e2, _⟩ := h.2.2.2.1 f (by omega)
    refine AG_ok rfl ?_ jset_at (inv_thr h)
    rw [n32_c (by omega), e1, e2]
  · rw [if_neg hp, if_neg hp]
    exact AG_1 rfl rfl jset_at (by decide) (inv_thr h)
/-- 23: kept -/
theorem ag_23 {S SM : jS} {L : jLg} (h : InvL S L SM) : ∀ p1 p2, AG (f_X10_kept S p1 p2) 1 0 0 (f_X11_kept SM p1 p2) (fun _ SM1 => InvL S L SM1) := fun p1 p2 => by
  unfold f_X10_kept f_X11_kept
  rw [m_trial, jbin0_s]
  by_cases hp : 0 ≤ p1 ∧ p1 ≤ 5
  · rw [f_tri_y hp, jbind_s, rg_1 hp]
    by_cases hq : 0 ≤ p2 ∧ p2 ≤ 19
    · rw [f_per_y hq, jbind_s]
      obtain ⟨t, ht, rfl⟩ := n32_rg (n := 5) (by omega) hp
      obtain ⟨p, hp9, rfl⟩ := n32_rg (n := 19) (by omega) hq
      obtain ⟨k, hk, e1, e2⟩ := (h.2.2.2.2.2.2.1 p (by omega)).1 t (by omega)
      rw [chk_t (in20 hp9), chk_t (in6 ht), n32_c (by omega), n32_c (by omega), show 82 + 12 * p + 1 = (82 + 12 * p) + 1 from rfl, e2]
      unfold joinK
      dsimp only
      rw [if_neg (by decide), m_person, jbin0_s, rg_1 hq, if_neg (by decide), m_w0, jbin0_s, if_neg (by decide), n32_20, chk_t (n32_inb (by omega) (by omega)), n32_c (by omega), jset_ne (by omega), e1]
      exact AG_ok rfl rfl jset_at (inv_thr h)
    · rw [f_per_n hq, jbind_t]
      unfold joinK
      dsimp only
      rw [if_neg (by decide), m_person, jbin0_s, rg_0 hq, if_pos rfl, m_w1, jbin0_s, if_pos rfl]
      exact AG_1 rfl rfl jset_at (by decide) (inv_thr h)
  · rw [f_tri_n hp, jbind_t, rg_0 hp]
    unfold joinK
    dsimp only
    rw [if_pos rfl, m_w1, jbin0_s, if_pos rfl]
    exact AG_1 rfl rfl jset_at (by decide) (inv_thr h)
end AGC
