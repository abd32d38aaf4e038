section ACT
/-- a call of a turn, through the law: refused, it leaves the house as it was; else a second house, that is alike, answers the same and is alike again -/
def ActOk (F : jS → jLg → Option (jR jSL)) : Prop := ∀ (SM S : jS) (L : jLg), InvL S L SM → ∃ told S1 L1, F S L = some (0, told, (S1, L1)) ∧ ((told = -99999 ∧ InvL S1 L1 SM) ∨ (told ≠ -99999 ∧ ∃ SM1, InvL S1 L1 SM1 ∧ ∀ T L2, InvL T L2 SM → ∃ T1 L21, F T L2 = some (0, told, (T1, L21)) ∧ InvL T1 L21 SM1))
theorem ao_gen {σ : Type} {oc : jS → jLg → Option (jR σ)} {om : jS → Option (jR jS)} {c1 c2 c3 : Int32} {g : Int32 → Int32} {pr : σ → jLg → jSL} {kc : Nat → σ → jLg → Option (jR jSL)} {kf : Int32 → σ → jLg → Option (jR jSL)}
    (hag : ∀ SM S L, InvL S L SM → AGv (oc S L) c1 c2 c3 (om SM) (fun S1 SM1 => InvL (pr S1 L).1 (pr S1 L).2 SM1))
    (hth : ∀ SM S L, InvL S L SM → ∀ t v S1, oc S L = some (t + 1, v, S1) → InvL (pr S1 L).1 (pr S1 L).2 SM)
    (hf : ∀ v S1 L, kf v S1 L = some (0, g v, pr S1 L)) (hg : ∀ v, v ≠ -99999 → g v ≠ -99999)
    (h1 : c1 ≠ 0 → ∀ S1 L, kc 1 S1 L = some (0, -99999, pr S1 L)) (h2 : c2 ≠ 0 → ∀ S1 L, kc 2 S1 L = some (0, -99999, pr S1 L)) (h3 : c3 ≠ 0 → ∀ S1 L, kc 3 S1 L = some (0, -99999, pr S1 L)) :
    ActOk (fun S L => jcat (oc S L) (fun v S1 => kf v S1 L) (fun t S1 => kc t S1 L)) := by
  intro SM S L h
  rcases hag SM S L h with ⟨v, S1, SM1, e1, e2, e3, hI, hv⟩ | ⟨v, v2, S1, SM1, e1, e2, e3, hc, hI⟩ | ⟨v, v2, S1, SM1, e1, e2, e3, hc, hI⟩ | ⟨v, v2, S1, SM1, e1, e2, e3, hc, hI⟩
  · refine ⟨g v, (pr S1 L).1, (pr S1 L).2, ?_, Or.inr ⟨hg v hv, SM1, hI, fun T L2 hT => ?_⟩⟩
    · show jcat (oc S L) _ _ = _
      rw [e1]
      exact hf v S1 L
    · rcases hag SM T L2 hT with ⟨v9, T1, SM9, f1, f2, f3, hJ, _⟩ | ⟨v9, v2, T1, SM9, f1, f2, f3, hc, hJ⟩ | ⟨v9, v2, T1, SM9, f1, f2, f3, hc, hJ⟩ | ⟨v9, v2, T1, SM9, f1, f2, f3, hc, hJ⟩
      · cases e2.symm.trans f2
        refine ⟨(pr T1 L2).1, (pr T1 L2).2, ?_, hJ⟩
        show jcat (oc T L2) _ _ = _
        rw [f1]
        exact hf v T1 L2
      · cases e2.symm.trans f2
        exact absurd (f3.symm.trans e3) hc
      · cases e2.symm.trans f2
        exact absurd (f3.symm.trans e3) hc
      · cases e2.symm.trans f2
        exact absurd (f3.symm.trans e3) hc
  · refine ⟨-99999, (pr S1 L).1, (pr S1 L).2, ?_, Or.inl ⟨rfl, hth SM S L h 0 v S1 e1⟩⟩
    show jcat (oc S L) _ _ = _
    rw [e1]
    exact h1 hc S1 L
  · refine ⟨-99999, (pr S1 L).1, (pr S1 L).2, ?_, Or.inl ⟨rfl, hth SM S L h 1 v S1 e1⟩⟩
    show jcat (oc S L) _ _ = _
    rw [e1]
    exact h2 hc S1 L
  · refine ⟨-99999, (pr S1 L).1, (pr S1 L).2, ?_, Or.inl ⟨rfl, hth SM S L h 2 v S1 e1⟩⟩
    show jcat (oc S L) _ _ = _
    rw [e1]
    exact h3 hc S1 L
/-! the pieces of a turn -/
theorem ao_low {x : Int32} {n : Nat} {m : Int32} {G : jS → jLg → Int32 → Option (jR jSL)} (hm : m = Int32.ofNat n) (hn : 0 < n) (hn2 : n ≤ 2000) (h : ∀ k, k < n → ActOk (fun S L => G S L (Int32.ofNat k))) : ActOk (fun S L => jbin0 (f_L_low x m) (fun v _ => G S L v)) := by
  obtain ⟨k, hk, e⟩ := f_low (x := x) hn hn2
  have e9 : (fun S L => jbin0 (f_L_low x m) (fun v _ => G S L v)) = fun S L => G S L (Int32.ofNat k) := by
    funext S L
    rw [hm, e, jbin0_s]
  rw [e9]
  exact h k hk
theorem ao_join {A : Type} {K : jS → jLg → A → Option (jR jSL)} {B : jS → jLg → (A → Option (jR jSL)) → Option (jR jSL)} (h : ActOk (fun S L => B S L (K S L))) : ActOk (fun S L => joinK (K S L) (B S L)) := h
theorem ao_ite {c : Prop} [Decidable c] {F G : jS → jLg → Option (jR jSL)} (h1 : c → ActOk F) (h2 : ¬ c → ActOk G) : ActOk (fun S L => if c then F S L else G S L) := by
  by_cases h : c
  · have e : (fun S L => if c then F S L else G S L) = F := by
      funext S L
      rw [if_pos h]
    rw [e]
    exact h1 h
  · have e : (fun S L => if c then F S L else G S L) = G := by
      funext S L
      rw [if_neg h]
    rw [e]
    exact h2 h
theorem ao_ret {F : jS → jLg → Option (jR jSL)} (h : ActOk F) : ActOk (fun S L => jbin0 (F S L) (fun v S1 => some (0, v, (S1.1, S1.2)))) := by
  intro SM S L hI
  obtain ⟨told, S1, L1, e, hh⟩ := h SM S L hI
  refine ⟨told, S1, L1, ?_, hh.imp id fun ⟨h1, SM1, h2, h3⟩ => ⟨h1, SM1, h2, fun T L2 hT => ?_⟩⟩
  · show jbin0 (F S L) _ = _
    rw [e, jbin0_s]
  · obtain ⟨T1, L21, e2, h4⟩ := h3 T L2 hT
    refine ⟨T1, L21, ?_, h4⟩
    show jbin0 (F T L2) _ = _
    rw [e2, jbin0_s]
theorem ao_setAttribute {p1 p2 p3 : Int32} : ActOk (fun S L => f_L_setAttribute S L p1 p2 p3) := by
  unfold f_L_setAttribute
  exact ao_gen (oc := fun S _ => f_X10_setAttribute S p1 p2 p3) (om := fun SM => f_X11_setAttribute SM p1 p2 p3) (c1 := 1) (c2 := 0) (c3 := 0) (g := fun v => v) (pr := fun S1 L => (S1, L)) (fun SM S L h => ag_0 h p1 p2 p3)
    (fun SM S L h t v S1 e => inv_X h (th_setAttribute t v S1 e)) (fun v S1 L => rfl)
    (fun v h => h) (fun _ S1 L => rfl) (fun h => absurd rfl h) (fun h => absurd rfl h)
theorem ao_setTag {p1 p2 p3 : Int32} : ActOk (fun S L => f_L_setTag S L p1 p2 p3) := by
  unfold f_L_setTag
  exact ao_gen (oc := fun S _ => f_X10_setTag S p1 p2 p3) (om := fun SM => f_X11_setTag SM p1 p2 p3) (c1 := 1) (c2 := 0) (c3 := 0) (g := fun v => if v = (0 : Int32) then 0 else 1) (pr := fun S1 L => (S1, L)) (fun SM S L h => ag_1 h p1 p2 p3)
    (fun SM S L h t v S1 e => inv_X h (th_setTag t v S1 e)) (fun v S1 L => by
      by_cases hv : v = (0 : Int32)
      · simp [hv]
      · simp [hv])
    (fun v _ => by
      by_cases hv : v = (0 : Int32)
      · simp [hv]
      · simp [hv]) (fun _ S1 L => rfl) (fun h => absurd rfl h) (fun h => absurd rfl h)
theorem ao_type {p1 p2 : Int32} : ActOk (fun S L => f_L_type S L p1 p2) := by
  unfold f_L_type
  exact ao_gen (oc := fun S _ => f_X10_type S p1 p2) (om := fun SM => f_X11_type SM p1 p2) (c1 := 1) (c2 := 2) (c3 := 0) (g := fun v => v) (pr := fun S1 L => (S1, L)) (fun SM S L h => ag_2 h p1 p2)
    (fun SM S L h t v S1 e => inv_X h (th_type t v S1 e)) (fun v S1 L => rfl)
    (fun v h => h) (fun _ S1 L => rfl) (fun _ S1 L => rfl) (fun h => absurd rfl h)
theorem ao_erase {p1 p2 : Int32} : ActOk (fun S L => f_L_erase S L p1 p2) := by
  unfold f_L_erase
  exact ao_gen (oc := fun S _ => f_X10_erase S p1 p2) (om := fun SM => f_X11_erase SM p1 p2) (c1 := 1) (c2 := 0) (c3 := 0) (g := fun v => v) (pr := fun S1 L => (S1, L)) (fun SM S L h => ag_3 h p1 p2)
    (fun SM S L h t v S1 e => inv_X h (th_erase t v S1 e)) (fun v S1 L => rfl)
    (fun v h => h) (fun _ S1 L => rfl) (fun h => absurd rfl h) (fun h => absurd rfl h)
theorem ao_set {p1 : Int32} : ActOk (fun S L => f_L_set S L p1) := by
  unfold f_L_set
  exact ao_gen (oc := fun S _ => f_X10_set S p1) (om := fun SM => f_X11_set SM p1) (c1 := 1) (c2 := 2) (c3 := 0) (g := fun v => v) (pr := fun S1 L => (S1, L)) (fun SM S L h => ag_6 h p1)
    (fun SM S L h t v S1 e => inv_X h (th_set h t v S1 e)) (fun v S1 L => rfl)
    (fun v h => h) (fun _ S1 L => rfl) (fun _ S1 L => rfl) (fun h => absurd rfl h)
theorem ao_wouldMove {p1 : Int32} : ActOk (fun S L => f_L_wouldMove S L p1) := by
  unfold f_L_wouldMove
  exact ao_gen (oc := fun S _ => f_X10_wouldMove S p1) (om := fun SM => f_X11_wouldMove SM p1) (c1 := 1) (c2 := 2) (c3 := 0) (g := fun v => v) (pr := fun S1 L => (S1, L)) (fun SM S L h => ag_7 h p1)
    (fun SM S L h t v S1 e => inv_X h (th_wouldMove h t v S1 e)) (fun v S1 L => rfl)
    (fun v h => h) (fun _ S1 L => rfl) (fun _ S1 L => rfl) (fun h => absurd rfl h)
theorem ao_addRule {p1 p2 p3 p4 : Int32} : ActOk (fun S L => f_L_addRule S L p1 p2 p3 p4) := by
  unfold f_L_addRule
  exact ao_gen (oc := fun S _ => f_X10_addRule S p1 p2 p3 p4) (om := fun SM => f_X11_addRule SM p1 p2 p3 p4) (c1 := 1) (c2 := 3) (c3 := 2) (g := fun v => v) (pr := fun S1 L => (S1, L)) (fun SM S L h => ag_9 h p1 p2 p3 p4)
    (fun SM S L h t v S1 e => inv_X h (th_addRule t v S1 e)) (fun v S1 L => rfl)
    (fun v h => h) (fun _ S1 L => rfl) (fun _ S1 L => rfl) (fun _ S1 L => rfl)
theorem ao_removeRule {p1 p2 : Int32} : ActOk (fun S L => f_L_removeRule S L p1 p2) := by
  unfold f_L_removeRule
  exact ao_gen (oc := fun S _ => f_X10_removeRule S p1 p2) (om := fun SM => f_X11_removeRule SM p1 p2) (c1 := 1) (c2 := 0) (c3 := 2) (g := fun v => v) (pr := fun S1 L => (S1, L)) (fun SM S L h => ag_10 h p1 p2)
    (fun SM S L h t v S1 e => inv_X h (th_removeRule t v S1 e)) (fun v S1 L => rfl)
    (fun v h => h) (fun _ S1 L => rfl) (fun h => absurd rfl h) (fun _ S1 L => rfl)
theorem ao_setNeed {p1 p2 p3 : Int32} : ActOk (fun S L => f_L_setNeed S L p1 p2 p3) := by
  unfold f_L_setNeed
  exact ao_gen (oc := fun S _ => f_X10_setNeed S p1 p2 p3) (om := fun SM => f_X11_setNeed SM p1 p2 p3) (c1 := 1) (c2 := 2) (c3 := 0) (g := fun v => if v = (0 : Int32) then 0 else 1) (pr := fun S1 L => (S1, L)) (fun SM S L h => ag_12 h p1 p2 p3)
    (fun SM S L h t v S1 e => inv_X h (th_setNeed t v S1 e)) (fun v S1 L => by
      by_cases hv : v = (0 : Int32)
      · simp [hv]
      · simp [hv])
    (fun v _ => by
      by_cases hv : v = (0 : Int32)
      · simp [hv]
      · simp [hv]) (fun _ S1 L => rfl) (fun _ S1 L => rfl) (fun h => absurd rfl h)
theorem ao_show {p1 p2 : Int32} : ActOk (fun S L => f_L_show S L p1 p2) := by
  unfold f_L_show
  exact ao_gen (oc := fun S L => f_X10_show S L p1 p2) (om := fun SM => f_X11_show SM p1 p2) (c1 := 1) (c2 := 2) (c3 := 0) (g := fun v => v) (pr := fun S1 _ => (S1.1, S1.2)) (fun SM S L h => ag_17 h p1 p2)
    (fun SM S L h t v S1 e => by
      obtain ⟨a, b⟩ := th_show t v S1 e
      rw [b]
      exact inv_X h a) (fun v S1 L => rfl)
    (fun v h => h) (fun _ S1 L => rfl) (fun _ S1 L => rfl) (fun h => absurd rfl h)
theorem ao_setShares {p1 p2 p3 p4 p5 : Int32} : ActOk (fun S L => f_L_setShares S L p1 p2 p3 p4 p5) := by
  unfold f_L_setShares
  exact ao_gen (oc := fun S _ => f_X10_setShares S p1 p2 p3 p4 p5) (om := fun SM => f_X11_setShares SM p1 p2 p3 p4 p5) (c1 := 1) (c2 := 2) (c3 := 0) (g := fun v => v) (pr := fun S1 L => (S1, L)) (fun SM S L h => ag_18 h p1 p2 p3 p4 p5)
    (fun SM S L h t v S1 e => inv_X h (th_setShares t v S1 e)) (fun v S1 L => rfl)
    (fun v h => h) (fun _ S1 L => rfl) (fun _ S1 L => rfl) (fun h => absurd rfl h)
theorem ao_setSalt {p1 p2 : Int32} : ActOk (fun S L => f_L_setSalt S L p1 p2) := by
  unfold f_L_setSalt
  exact ao_gen (oc := fun S _ => f_X10_setSalt S p1 p2) (om := fun SM => f_X11_setSalt SM p1 p2) (c1 := 1) (c2 := 2) (c3 := 0) (g := fun v => v) (pr := fun S1 L => (S1, L)) (fun SM S L h => ag_19 h p1 p2)
    (fun SM S L h t v S1 e => inv_X h (th_setSalt t v S1 e)) (fun v S1 L => rfl)
    (fun v h => h) (fun _ S1 L => rfl) (fun _ S1 L => rfl) (fun h => absurd rfl h)
theorem ao_stop {p1 p2 : Int32} : ActOk (fun S L => f_L_stop S L p1 p2) := by
  unfold f_L_stop
  exact ao_gen (oc := fun S _ => f_X10_stop S p1 p2) (om := fun SM => f_X11_stop SM p1 p2) (c1 := 1) (c2 := 2) (c3 := 0) (g := fun v => v) (pr := fun S1 L => (S1, L)) (fun SM S L h => ag_20 h p1 p2)
    (fun SM S L h t v S1 e => inv_X h (th_stop t v S1 e)) (fun v S1 L => rfl)
    (fun v h => h) (fun _ S1 L => rfl) (fun _ S1 L => rfl) (fun h => absurd rfl h)
theorem ao_beginAnew {p1 : Int32} : ActOk (fun S L => f_L_beginAnew S L p1) := by
  unfold f_L_beginAnew
  exact ao_gen (oc := fun S L => f_X10_beginAnew S L p1) (om := fun SM => f_X11_beginAnew SM p1) (c1 := 1) (c2 := 2) (c3 := 0) (g := fun v => v) (pr := fun S1 _ => (S1.1, S1.2)) (fun SM S L h => ag_21 h p1)
    (fun SM S L h t v S1 e => by
      obtain ⟨a, b⟩ := th_beginAnew t v S1 e
      rw [b]
      exact inv_X h a) (fun v S1 L => rfl)
    (fun v h => h) (fun _ S1 L => rfl) (fun _ S1 L => rfl) (fun h => absurd rfl h)
theorem ao_hold {p1 p2 : Int32} : ActOk (fun S L => f_L_hold S L p1 p2) := by
  unfold f_L_hold
  exact ao_gen (oc := fun S L => f_X10_hold S L p1 p2) (om := fun SM => f_X11_hold SM p1 p2) (c1 := 1) (c2 := 2) (c3 := 0) (g := fun v => v) (pr := fun S1 _ => (S1.1, S1.2)) (fun SM S L h => ag_24 h p1 p2)
    (fun SM S L h t v S1 e => by
      obtain ⟨a, b⟩ := th_hold t v S1 e
      rw [b]
      exact inv_X h a) (fun v S1 L => rfl)
    (fun v h => h) (fun _ S1 L => rfl) (fun _ S1 L => rfl) (fun h => absurd rfl h)
theorem ao_release {p1 p2 : Int32} : ActOk (fun S L => f_L_release S L p1 p2) := by
  unfold f_L_release
  exact ao_gen (oc := fun S L => f_X10_release S L p1 p2) (om := fun SM => f_X11_release SM p1 p2) (c1 := 1) (c2 := 2) (c3 := 0) (g := fun v => v) (pr := fun S1 _ => (S1.1, S1.2)) (fun SM S L h => ag_25 h p1 p2)
    (fun SM S L h t v S1 e => by
      obtain ⟨a, b⟩ := th_release t v S1 e
      rw [b]
      exact inv_X h a) (fun v S1 L => rfl)
    (fun v h => h) (fun _ S1 L => rfl) (fun _ S1 L => rfl) (fun h => absurd rfl h)
theorem ao_holdTrial {p1 : Int32} : ActOk (fun S L => f_L_holdTrial S L p1) := by
  unfold f_L_holdTrial
  exact ao_gen (oc := fun S L => f_X10_holdTrial S L p1) (om := fun SM => f_X11_holdTrial SM p1) (c1 := 1) (c2 := 2) (c3 := 0) (g := fun v => v) (pr := fun S1 _ => (S1.1, S1.2)) (fun SM S L h => ag_26 h p1)
    (fun SM S L h t v S1 e => by
      obtain ⟨a, b⟩ := th_holdTrial t v S1 e
      rw [b]
      exact inv_X h a) (fun v S1 L => rfl)
    (fun v h => h) (fun _ S1 L => rfl) (fun _ S1 L => rfl) (fun h => absurd rfl h)
theorem ao_releaseTrial {p1 : Int32} : ActOk (fun S L => f_L_releaseTrial S L p1) := by
  unfold f_L_releaseTrial
  exact ao_gen (oc := fun S L => f_X10_releaseTrial S L p1) (om := fun SM => f_X11_releaseTrial SM p1) (c1 := 1) (c2 := 2) (c3 := 0) (g := fun v => v) (pr := fun S1 _ => (S1.1, S1.2)) (fun SM S L h => ag_27 h p1)
    (fun SM S L h t v S1 e => by
      obtain ⟨a, b⟩ := th_releaseTrial t v S1 e
      rw [b]
      exact inv_X h a) (fun v S1 L => rfl)
    (fun v h => h) (fun _ S1 L => rfl) (fun _ S1 L => rfl) (fun h => absurd rfl h)
end ACT
