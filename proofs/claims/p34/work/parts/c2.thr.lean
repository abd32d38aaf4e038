section THR
/-- where it throws, what is behind is as P says -/
def TH {σ : Type} (P : σ → Prop) (o : Option (jR σ)) : Prop := ∀ t v S1, o = some (t + 1, v, S1) → P S1
section
variable {α σ : Type} {P : σ → Prop}
theorem th_some0 {v : Int32} {S : σ} : TH P (some (0, v, S)) := fun t v1 S1 h => by cases h
theorem th_some {t : Nat} {v : Int32} {S : σ} (h : P S) : TH P (some (t, v, S)) := fun t1 v1 S1 h1 => by
  cases h1
  exact h
theorem th_none : TH P (none : Option (jR σ)) := fun t v S1 h => by cases h
theorem th_bin0 {o : Option (jR α)} {k : Int32 → α → Option (jR σ)} (h : ∀ v S, TH P (k v S)) : TH P (jbin0 o k) := fun t v S1 h1 => by
  match o, h1 with
  | some (0, v2, S2), h1 => exact h v2 S2 t v S1 h1
  | some (n + 1, _, _), h1 => cases h1
  | none, h1 => cases h1
theorem th_bind {o : Option (jR α)} {k : Int32 → α → Option (jR σ)} {kt : Nat → α → Option (jR σ)} (h : ∀ v S, TH P (k v S)) (ht : ∀ t S, TH P (kt t S)) : TH P (jbind o k kt) := fun t v S1 h1 => by
  match o, h1 with
  | some (0, v2, S2), h1 => exact h v2 S2 t v S1 h1
  | some (n + 1, v2, S2), h1 => exact ht (n + 1) S2 t v S1 h1
  | none, h1 => cases h1
theorem th_chk {b : Bool} {o : Option (jR σ)} (h : TH P o) : TH P (chk b o) := fun t v S1 h1 => by
  unfold chk at h1
  split at h1
  · exact h t v S1 h1
  · cases h1
theorem th_let {x : α} {f : α → Option (jR σ)} (h : TH P (f x)) : TH P (letE x f) := h
theorem th_join {K : Type} {k0 : K} {body : K → Option (jR σ)} (h : TH P (body k0)) : TH P (joinK k0 body) := h
theorem th_ite {c : Prop} [Decidable c] {a b : Option (jR σ)} (h1 : c → TH P a) (h2 : ¬ c → TH P b) : TH P (if c then a else b) := by
  by_cases h : c
  · rw [if_pos h]
    exact h1 h
  · rw [if_neg h]
    exact h2 h
theorem th_loop2 {A B : Type} {F : (A → B → Option (jR σ)) → A → B → Option (jR σ)} {bot : A → B → Option (jR σ)} (h : ∀ rec, (∀ a b, TH P (rec a b)) → ∀ a b, TH P (F rec a b)) (h0 : ∀ a b, TH P (bot a b)) : ∀ n a b, TH P (loopK F bot n a b)
  | 0, a, b => h0 a b
  | n + 1, a, b => h _ (fun a b => th_loop2 h h0 n a b) a b
theorem th_loop3 {A B C : Type} {F : (A → B → C → Option (jR σ)) → A → B → C → Option (jR σ)} {bot : A → B → C → Option (jR σ)} (h : ∀ rec, (∀ a b c, TH P (rec a b c)) → ∀ a b c, TH P (F rec a b c)) (h0 : ∀ a b c, TH P (bot a b c)) : ∀ n a b c, TH P (loopK F bot n a b c)
  | 0, a, b, c => h0 a b c
  | n + 1, a, b, c => h _ (fun a b c => th_loop3 h h0 n a b c) a b c
end
theorem th_setAttribute {S : jS} {p1 p2 p3 : Int32} : TH (fun S1 => frX S1 S) (f_X10_setAttribute S p1 p2 p3) := by
  unfold f_X10_setAttribute
  repeat (with_reducible first | refine th_bind (fun _ _ => ?_) (fun _ _ => ?_) | refine th_bin0 (fun _ _ => ?_) | refine th_chk ?_ | refine th_let ?_ | refine th_ite (fun _ => ?_) (fun _ => ?_) | refine th_loop2 (fun rec hrec a b => ?_) (fun _ _ => th_none) _ _ _ | refine th_loop3 (fun rec hrec a b c => ?_) (fun _ _ _ => th_none) _ _ _ _ | refine th_join ?_ | exact hrec _ _ | exact hrec _ _ _ | exact th_some0 | exact th_some frX_r | exact th_some ⟨frX_r, rfl⟩)
theorem th_setTag {S : jS} {p1 p2 p3 : Int32} : TH (fun S1 => frX S1 S) (f_X10_setTag S p1 p2 p3) := by
  unfold f_X10_setTag
  repeat (with_reducible first | refine th_bind (fun _ _ => ?_) (fun _ _ => ?_) | refine th_bin0 (fun _ _ => ?_) | refine th_chk ?_ | refine th_let ?_ | refine th_ite (fun _ => ?_) (fun _ => ?_) | refine th_loop2 (fun rec hrec a b => ?_) (fun _ _ => th_none) _ _ _ | refine th_loop3 (fun rec hrec a b c => ?_) (fun _ _ _ => th_none) _ _ _ _ | refine th_join ?_ | exact hrec _ _ | exact hrec _ _ _ | exact th_some0 | exact th_some frX_r | exact th_some ⟨frX_r, rfl⟩)
theorem th_type {S : jS} {p1 p2 : Int32} : TH (fun S1 => frX S1 S) (f_X10_type S p1 p2) := by
  unfold f_X10_type
  repeat (with_reducible first | refine th_bind (fun _ _ => ?_) (fun _ _ => ?_) | refine th_bin0 (fun _ _ => ?_) | refine th_chk ?_ | refine th_let ?_ | refine th_ite (fun _ => ?_) (fun _ => ?_) | refine th_loop2 (fun rec hrec a b => ?_) (fun _ _ => th_none) _ _ _ | refine th_loop3 (fun rec hrec a b c => ?_) (fun _ _ _ => th_none) _ _ _ _ | refine th_join ?_ | exact hrec _ _ | exact hrec _ _ _ | exact th_some0 | exact th_some frX_r | exact th_some ⟨frX_r, rfl⟩)
theorem th_erase {S : jS} {p1 p2 : Int32} : TH (fun S1 => frX S1 S) (f_X10_erase S p1 p2) := by
  unfold f_X10_erase
  repeat (with_reducible first | refine th_bind (fun _ _ => ?_) (fun _ _ => ?_) | refine th_bin0 (fun _ _ => ?_) | refine th_chk ?_ | refine th_let ?_ | refine th_ite (fun _ => ?_) (fun _ => ?_) | refine th_loop2 (fun rec hrec a b => ?_) (fun _ _ => th_none) _ _ _ | refine th_loop3 (fun rec hrec a b c => ?_) (fun _ _ _ => th_none) _ _ _ _ | refine th_join ?_ | exact hrec _ _ | exact hrec _ _ _ | exact th_some0 | exact th_some frX_r | exact th_some ⟨frX_r, rfl⟩)
theorem th_addRule {S : jS} {p1 p2 p3 p4 : Int32} : TH (fun S1 => frX S1 S) (f_X10_addRule S p1 p2 p3 p4) := by
  unfold f_X10_addRule
  repeat (with_reducible first | refine th_bind (fun _ _ => ?_) (fun _ _ => ?_) | refine th_bin0 (fun _ _ => ?_) | refine th_chk ?_ | refine th_let ?_ | refine th_ite (fun _ => ?_) (fun _ => ?_) | refine th_loop2 (fun rec hrec a b => ?_) (fun _ _ => th_none) _ _ _ | refine th_loop3 (fun rec hrec a b c => ?_) (fun _ _ _ => th_none) _ _ _ _ | refine th_join ?_ | exact hrec _ _ | exact hrec _ _ _ | exact th_some0 | exact th_some frX_r | exact th_some ⟨frX_r, rfl⟩)
theorem th_removeRule {S : jS} {p1 p2 : Int32} : TH (fun S1 => frX S1 S) (f_X10_removeRule S p1 p2) := by
  unfold f_X10_removeRule
  repeat (with_reducible first | refine th_bind (fun _ _ => ?_) (fun _ _ => ?_) | refine th_bin0 (fun _ _ => ?_) | refine th_chk ?_ | refine th_let ?_ | refine th_ite (fun _ => ?_) (fun _ => ?_) | refine th_loop2 (fun rec hrec a b => ?_) (fun _ _ => th_none) _ _ _ | refine th_loop3 (fun rec hrec a b c => ?_) (fun _ _ _ => th_none) _ _ _ _ | refine th_join ?_ | exact hrec _ _ | exact hrec _ _ _ | exact th_some0 | exact th_some frX_r | exact th_some ⟨frX_r, rfl⟩)
theorem th_setNeed {S : jS} {p1 p2 p3 : Int32} : TH (fun S1 => frX S1 S) (f_X10_setNeed S p1 p2 p3) := by
  unfold f_X10_setNeed
  repeat (with_reducible first | refine th_bind (fun _ _ => ?_) (fun _ _ => ?_) | refine th_bin0 (fun _ _ => ?_) | refine th_chk ?_ | refine th_let ?_ | refine th_ite (fun _ => ?_) (fun _ => ?_) | refine th_loop2 (fun rec hrec a b => ?_) (fun _ _ => th_none) _ _ _ | refine th_loop3 (fun rec hrec a b c => ?_) (fun _ _ _ => th_none) _ _ _ _ | refine th_join ?_ | exact hrec _ _ | exact hrec _ _ _ | exact th_some0 | exact th_some frX_r | exact th_some ⟨frX_r, rfl⟩)
theorem th_setShares {S : jS} {p1 p2 p3 p4 p5 : Int32} : TH (fun S1 => frX S1 S) (f_X10_setShares S p1 p2 p3 p4 p5) := by
  unfold f_X10_setShares
  repeat (with_reducible first | refine th_bind (fun _ _ => ?_) (fun _ _ => ?_) | refine th_bin0 (fun _ _ => ?_) | refine th_chk ?_ | refine th_let ?_ | refine th_ite (fun _ => ?_) (fun _ => ?_) | refine th_loop2 (fun rec hrec a b => ?_) (fun _ _ => th_none) _ _ _ | refine th_loop3 (fun rec hrec a b c => ?_) (fun _ _ _ => th_none) _ _ _ _ | refine th_join ?_ | exact hrec _ _ | exact hrec _ _ _ | exact th_some0 | exact th_some frX_r | exact th_some ⟨frX_r, rfl⟩)
theorem th_setSalt {S : jS} {p1 p2 : Int32} : TH (fun S1 => frX S1 S) (f_X10_setSalt S p1 p2) := by
  unfold f_X10_setSalt
  repeat (with_reducible first | refine th_bind (fun _ _ => ?_) (fun _ _ => ?_) | refine th_bin0 (fun _ _ => ?_) | refine th_chk ?_ | refine th_let ?_ | refine th_ite (fun _ => ?_) (fun _ => ?_) | refine th_loop2 (fun rec hrec a b => ?_) (fun _ _ => th_none) _ _ _ | refine th_loop3 (fun rec hrec a b c => ?_) (fun _ _ _ => th_none) _ _ _ _ | refine th_join ?_ | exact hrec _ _ | exact hrec _ _ _ | exact th_some0 | exact th_some frX_r | exact th_some ⟨frX_r, rfl⟩)
theorem th_stop {S : jS} {p1 p2 : Int32} : TH (fun S1 => frX S1 S) (f_X10_stop S p1 p2) := by
  unfold f_X10_stop
  repeat (with_reducible first | refine th_bind (fun _ _ => ?_) (fun _ _ => ?_) | refine th_bin0 (fun _ _ => ?_) | refine th_chk ?_ | refine th_let ?_ | refine th_ite (fun _ => ?_) (fun _ => ?_) | refine th_loop2 (fun rec hrec a b => ?_) (fun _ _ => th_none) _ _ _ | refine th_loop3 (fun rec hrec a b c => ?_) (fun _ _ _ => th_none) _ _ _ _ | refine th_join ?_ | exact hrec _ _ | exact hrec _ _ _ | exact th_some0 | exact th_some frX_r | exact th_some ⟨frX_r, rfl⟩)
theorem th_show {S : jS} {L : jLg} {p1 p2 : Int32} : TH (fun S1 => frX S1.1 S ∧ S1.2 = L) (f_X10_show S L p1 p2) := by
  unfold f_X10_show
  repeat (with_reducible first | refine th_bind (fun _ _ => ?_) (fun _ _ => ?_) | refine th_bin0 (fun _ _ => ?_) | refine th_chk ?_ | refine th_let ?_ | refine th_ite (fun _ => ?_) (fun _ => ?_) | refine th_loop2 (fun rec hrec a b => ?_) (fun _ _ => th_none) _ _ _ | refine th_loop3 (fun rec hrec a b c => ?_) (fun _ _ _ => th_none) _ _ _ _ | refine th_join ?_ | exact hrec _ _ | exact hrec _ _ _ | exact th_some0 | exact th_some frX_r | exact th_some ⟨frX_r, rfl⟩)
theorem th_beginAnew {S : jS} {L : jLg} {p1 : Int32} : TH (fun S1 => frX S1.1 S ∧ S1.2 = L) (f_X10_beginAnew S L p1) := by
  unfold f_X10_beginAnew
  repeat (with_reducible first | refine th_bind (fun _ _ => ?_) (fun _ _ => ?_) | refine th_bin0 (fun _ _ => ?_) | refine th_chk ?_ | refine th_let ?_ | refine th_ite (fun _ => ?_) (fun _ => ?_) | refine th_loop2 (fun rec hrec a b => ?_) (fun _ _ => th_none) _ _ _ | refine th_loop3 (fun rec hrec a b c => ?_) (fun _ _ _ => th_none) _ _ _ _ | refine th_join ?_ | exact hrec _ _ | exact hrec _ _ _ | exact th_some0 | exact th_some frX_r | exact th_some ⟨frX_r, rfl⟩)
theorem th_hold {S : jS} {L : jLg} {p1 p2 : Int32} : TH (fun S1 => frX S1.1 S ∧ S1.2 = L) (f_X10_hold S L p1 p2) := by
  unfold f_X10_hold
  repeat (with_reducible first | refine th_bind (fun _ _ => ?_) (fun _ _ => ?_) | refine th_bin0 (fun _ _ => ?_) | refine th_chk ?_ | refine th_let ?_ | refine th_ite (fun _ => ?_) (fun _ => ?_) | refine th_loop2 (fun rec hrec a b => ?_) (fun _ _ => th_none) _ _ _ | refine th_loop3 (fun rec hrec a b c => ?_) (fun _ _ _ => th_none) _ _ _ _ | refine th_join ?_ | exact hrec _ _ | exact hrec _ _ _ | exact th_some0 | exact th_some frX_r | exact th_some ⟨frX_r, rfl⟩)
theorem th_release {S : jS} {L : jLg} {p1 p2 : Int32} : TH (fun S1 => frX S1.1 S ∧ S1.2 = L) (f_X10_release S L p1 p2) := by
  unfold f_X10_release
  repeat (with_reducible first | refine th_bind (fun _ _ => ?_) (fun _ _ => ?_) | refine th_bin0 (fun _ _ => ?_) | refine th_chk ?_ | refine th_let ?_ | refine th_ite (fun _ => ?_) (fun _ => ?_) | refine th_loop2 (fun rec hrec a b => ?_) (fun _ _ => th_none) _ _ _ | refine th_loop3 (fun rec hrec a b c => ?_) (fun _ _ _ => th_none) _ _ _ _ | refine th_join ?_ | exact hrec _ _ | exact hrec _ _ _ | exact th_some0 | exact th_some frX_r | exact th_some ⟨frX_r, rfl⟩)
theorem th_holdTrial {S : jS} {L : jLg} {p1 : Int32} : TH (fun S1 => frX S1.1 S ∧ S1.2 = L) (f_X10_holdTrial S L p1) := by
  unfold f_X10_holdTrial
  repeat (with_reducible first | refine th_bind (fun _ _ => ?_) (fun _ _ => ?_) | refine th_bin0 (fun _ _ => ?_) | refine th_chk ?_ | refine th_let ?_ | refine th_ite (fun _ => ?_) (fun _ => ?_) | refine th_loop2 (fun rec hrec a b => ?_) (fun _ _ => th_none) _ _ _ | refine th_loop3 (fun rec hrec a b c => ?_) (fun _ _ _ => th_none) _ _ _ _ | refine th_join ?_ | exact hrec _ _ | exact hrec _ _ _ | exact th_some0 | exact th_some frX_r | exact th_some ⟨frX_r, rfl⟩)
theorem th_releaseTrial {S : jS} {L : jLg} {p1 : Int32} : TH (fun S1 => frX S1.1 S ∧ S1.2 = L) (f_X10_releaseTrial S L p1) := by
  unfold f_X10_releaseTrial
  repeat (with_reducible first | refine th_bind (fun _ _ => ?_) (fun _ _ => ?_) | refine th_bin0 (fun _ _ => ?_) | refine th_chk ?_ | refine th_let ?_ | refine th_ite (fun _ => ?_) (fun _ => ?_) | refine th_loop2 (fun rec hrec a b => ?_) (fun _ _ => th_none) _ _ _ | refine th_loop3 (fun rec hrec a b c => ?_) (fun _ _ _ => th_none) _ _ _ _ | refine th_join ?_ | exact hrec _ _ | exact hrec _ _ _ | exact th_some0 | exact th_some frX_r | exact th_some ⟨frX_r, rfl⟩)
theorem th_set {S SM : jS} {L : jLg} (h : InvL S L SM) {p1 : Int32} : TH (fun S1 => frX S1 S) (f_X10_set S p1) := by
  unfold f_X10_set
  by_cases hp : 0 ≤ p1 ∧ p1 ≤ 5
  · obtain ⟨a, ha, rfl⟩ := n32_rg (n := 5) (by omega) hp
    rcases lay_eq h ha with ⟨n, c, w, S1, SM6, _, _, _, ecs, _, _, _⟩ | ⟨S1, SM6, ecs, hf1, _, _⟩
    · rw [f_aud_y hp, jbind_s, ecs, jbind_s]
      repeat (with_reducible first | refine th_bind (fun _ _ => ?_) (fun _ _ => ?_) | refine th_bin0 (fun _ _ => ?_) | refine th_chk ?_ | refine th_let ?_ | refine th_ite (fun _ => ?_) (fun _ => ?_) | refine th_loop2 (fun rec hrec a b => ?_) (fun _ _ => th_none) _ _ _ | refine th_loop3 (fun rec hrec a b c => ?_) (fun _ _ _ => th_none) _ _ _ _ | refine th_join ?_ | exact hrec _ _ | exact hrec _ _ _ | exact th_some0 | exact th_some frX_r | exact th_some ⟨frX_r, rfl⟩)
    · rw [f_aud_y hp, jbind_s, ecs]
      exact th_some (t := 2) (v := 0) (S := S1) (fun q j hq => hf1 q j (by omega))
  · rw [f_aud_n hp, jbind_t]
    exact th_some frX_r
theorem th_wouldMove {S SM : jS} {L : jLg} (h : InvL S L SM) {p1 : Int32} : TH (fun S1 => frX S1 S) (f_X10_wouldMove S p1) := by
  unfold f_X10_wouldMove
  by_cases hp : 0 ≤ p1 ∧ p1 ≤ 5
  · obtain ⟨a, ha, rfl⟩ := n32_rg (n := 5) (by omega) hp
    rcases lay_eq h ha with ⟨n, c, w, S1, SM6, _, _, _, ecs, _, _, _⟩ | ⟨S1, SM6, ecs, hf1, _, _⟩
    · rw [f_aud_y hp, jbind_s, ecs, jbind_s]
      repeat (with_reducible first | refine th_bind (fun _ _ => ?_) (fun _ _ => ?_) | refine th_bin0 (fun _ _ => ?_) | refine th_chk ?_ | refine th_let ?_ | refine th_ite (fun _ => ?_) (fun _ => ?_) | refine th_loop2 (fun rec hrec a b => ?_) (fun _ _ => th_none) _ _ _ | refine th_loop3 (fun rec hrec a b c => ?_) (fun _ _ _ => th_none) _ _ _ _ | refine th_join ?_ | exact hrec _ _ | exact hrec _ _ _ | exact th_some0 | exact th_some frX_r | exact th_some ⟨frX_r, rfl⟩)
    · rw [f_aud_y hp, jbind_s, ecs]
      exact th_some (t := 2) (v := 0) (S := S1) (fun q j hq => hf1 q j (by omega))
  · rw [f_aud_n hp, jbind_t]
    exact th_some frX_r
end THR
