section ES1
/-- 30: shownLast -/
theorem ag_30 {S SM : jS} {L : jLg} (h : InvL S L SM) : ∀ p1 p2, AG (f_X10_shownLast S p1 p2) 1 0 0 (f_X11_shownLast SM p1 p2) (fun _ SM1 => InvL S L SM1) := fun p1 p2 => by
  unfold f_X10_shownLast f_X11_shownLast
  rw [m_person, jbin0_s]
  by_cases hp : 0 ≤ p1 ∧ p1 ≤ 19
  · rw [f_per_y hp, jbind_s, rg_1 hp]
    by_cases hq : 0 ≤ p2 ∧ p2 ≤ 7
    · rw [f_flg_y hq, jbind_s]
      obtain ⟨p, hp9, rfl⟩ := n32_rg (n := 19) (by omega) hp
      obtain ⟨f, hf, rfl⟩ := n32_rg (n := 7) (by omega) hq
      obtain ⟨e1, _⟩ := (h.2.2.2.2.2.2.1 p (by omega)).2.2 f (by omega)
      rw [chk_t (in20 hp9), chk_t (in8 hf), n32_c (by omega), n32_c (by omega), e1]
      unfold joinK
      dsimp only
      rw [if_neg (by decide), m_flag, jbin0_s, rg_1 hq, if_neg (by decide), m_w0, jbin0_s, if_neg (by decide), n32_8, chk_t (n32_inb (by omega) (by omega)), n32_c (by omega), jset_ne (by omega)]
      exact AG_ok rfl rfl jset_at (inv_thr h)
    · rw [f_flg_n hq, jbind_t]
      unfold joinK
      dsimp only
      rw [if_neg (by decide), m_flag, jbin0_s, rg_0 hq, if_pos rfl, m_w1, jbin0_s, if_pos rfl]
      exact AG_1 rfl rfl jset_at (by decide) (inv_thr h)
  · rw [f_per_n hp, jbind_t, rg_0 hp]
    unfold joinK
    dsimp only
    rw [if_pos rfl, m_w1, jbin0_s, if_pos rfl]
    exact AG_1 rfl rfl jset_at (by decide) (inv_thr h)
/-- 28: isHeld -/
theorem ag_28 {S SM : jS} {L : jLg} (h : InvL S L SM) : ∀ p1 p2, AG (f_X10_isHeld S p1 p2) 1 0 0 (f_X11_isHeld SM p1 p2) (fun _ SM1 => InvL S L SM1) := fun p1 p2 => by
  unfold f_X10_isHeld f_X11_isHeld
  rw [m_person, jbin0_s]
  by_cases hp : 0 ≤ p1 ∧ p1 ≤ 19
  · rw [f_per_y hp, jbind_s, rg_1 hp]
    by_cases hq : 0 ≤ p2 ∧ p2 ≤ 7
    · rw [f_flg_y hq, jbind_s]
      obtain ⟨p, hp9, rfl⟩ := n32_rg (n := 19) (by omega) hp
      obtain ⟨f, hf, rfl⟩ := n32_rg (n := 7) (by omega) hq
      obtain ⟨_, e1, _⟩ := (h.2.2.2.2.2.2.1 p (by omega)).2.2 f (by omega)
      rw [chk_t (in20 hp9), chk_t (in8 hf), n32_c (by omega), n32_c (by omega), e1]
      refine AG_ok (S1 := ()) (v := if SM 384 (8 * p + f) = 0 then 0 else 1) ?_ ?_ jset_at (inv_thr h)
      · unfold joinK
        dsimp only
        by_cases hz : SM 384 (8 * p + f) = 0
        · rw [if_pos hz, if_pos hz]
          rfl
        · rw [if_neg hz, if_neg hz]
          rfl
      · unfold joinK
        dsimp only
        rw [if_neg (by decide), m_flag, jbin0_s, rg_1 hq, if_neg (by decide), m_w0, jbin0_s, if_neg (by decide), n32_8, chk_t (n32_inb (by omega) (by omega)), n32_c (by omega), jset_ne (by omega)]
        by_cases hz : SM 384 (8 * p + f) = 0
        · rw [if_pos hz, if_pos hz]
          rfl
        · rw [if_neg hz, if_neg hz]
          rfl
    · rw [f_flg_n hq, jbind_t]
      unfold joinK
      dsimp only
      rw [if_neg (by decide), m_flag, jbin0_s, rg_0 hq, if_pos rfl, m_w1, jbin0_s, if_pos rfl]
      exact AG_1 rfl rfl jset_at (by decide) (inv_thr h)
  · rw [f_per_n hp, jbind_t, rg_0 hp]
    unfold joinK
    dsimp only
    rw [if_pos rfl, m_w1, jbin0_s, if_pos rfl]
    exact AG_1 rfl rfl jset_at (by decide) (inv_thr h)
/-- 5: fault -/
theorem ag_5 {S SM : jS} {L : jLg} (h : InvL S L SM) : ∀ p1, AG (f_X10_fault S p1) 1 0 0 (f_X11_fault SM p1) (fun S1 SM1 => InvL S1 L SM1) := fun p1 => by
  unfold f_X10_fault f_X11_fault
  rw [m_audience, jbin0_s]
  by_cases hp : 0 ≤ p1 ∧ p1 ≤ 5
  · rw [f_aud_y hp, jbind_s, rg_1 hp]
    obtain ⟨a, ha, rfl⟩ := n32_rg (n := 5) (by omega) hp
    obtain ⟨n, hn, e1, e2, e3⟩ := h.2.1 a (by omega)
    obtain ⟨S1, e4, hS1⟩ := f_findFault (S := S) (b := 37 + 4 * a) (n := n) (c := S (38 + 4 * a)) (by omega) (by omega) ⟨hn, e1⟩ (fun j _ => by rw [show 37 + 4 * a + 1 = 38 + 4 * a by omega])
    unfold f_X0_faultOf
    rw [chk_t (in6 ha), n32_c (by omega), e4, jbin0_s, jbin0_s]
    unfold joinK
    dsimp only
    rw [if_neg (by decide), m_w0, jbin0_s, if_neg (by decide), m_faultOf (n := n) (c := S (38 + 4 * a)) (by omega) hn (by rw [jset_ne (by omega)]; exact e2) (fun j hj => by rw [jset_ne (by omega)]; exact (e3 j (by omega)).1.symm), jbin0_s]
    exact AG_ok rfl rfl jset_at (inv_fr h (fun q j hq => hS1 q j (by omega)) frM_thrown)
  · rw [f_aud_n hp, jbind_t, rg_0 hp]
    unfold joinK
    dsimp only
    rw [if_pos rfl, m_w1, jbin0_s, if_pos rfl]
    exact AG_1 rfl rfl jset_at (by decide) (inv_thr h)
end ES1
