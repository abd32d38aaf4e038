section TTS
/-- what is done is done alike in every house that is as SM says -/
def DT (SM : jS) (F : jS → Option (jR jS)) (Q : Int32 → jS → Prop) : Prop := (∃ S L, InvL S L SM) → ∃ v SM1, Q v SM1 ∧ ∀ S L, InvL S L SM → ∃ S1, F S = some (0, v, S1) ∧ InvL S1 L SM1
theorem dt_bin {SM : jS} {F : jS → Option (jR jS)} {G : Int32 → jS → Option (jR jS)} {Q1 Q : Int32 → jS → Prop} (h : DT SM F Q1) (k : ∀ v SM1, Q1 v SM1 → DT SM1 (fun S => G v S) Q) : DT SM (fun S => jbin0 (F S) (fun v S1 => G v S1)) Q := fun hex => by
  obtain ⟨v, SM1, hq, h1⟩ := h hex
  obtain ⟨S0, L0, h0⟩ := hex
  obtain ⟨S1, _, hI⟩ := h1 S0 L0 h0
  obtain ⟨v2, SM2, hq2, h2⟩ := k v SM1 hq ⟨S1, L0, hI⟩
  refine ⟨v2, SM2, hq2, fun S L hS => ?_⟩
  obtain ⟨S3, e3, hI3⟩ := h1 S L hS
  obtain ⟨S4, e4, hI4⟩ := h2 S3 L hI3
  refine ⟨S4, ?_, hI4⟩
  show jbin0 (F S) _ = _
  rw [e3, jbin0_s]
  exact e4
theorem dt_low {SM : jS} {x m : Int32} {n : Nat} {G : Int32 → jS → Option (jR jS)} {Q : Int32 → jS → Prop} (hm : m = Int32.ofNat n) (hn : 0 < n) (hn2 : n ≤ 2000) (h : ∀ k, k < n → DT SM (fun S => G (Int32.ofNat k) S) Q) : DT SM (fun S => jbin0 (f_L_low x m) (fun v _ => G v S)) Q := by
  obtain ⟨k, hk, e⟩ := f_low (x := x) hn hn2
  have e9 : (fun S => jbin0 (f_L_low x m) (fun v _ => G v S)) = fun S => G (Int32.ofNat k) S := by
    funext S
    rw [hm, e, jbin0_s]
  rw [e9]
  exact h k hk
theorem dt_ite {SM : jS} {c : Prop} [Decidable c] {F G : jS → Option (jR jS)} {Q : Int32 → jS → Prop} (h1 : c → DT SM F Q) (h2 : ¬ c → DT SM G Q) : DT SM (fun S => if c then F S else G S) Q := by
  by_cases h : c
  · have e : (fun S => if c then F S else G S) = F := by
      funext S
      rw [if_pos h]
    rw [e]
    exact h1 h
  · have e : (fun S => if c then F S else G S) = G := by
      funext S
      rw [if_neg h]
    rw [e]
    exact h2 h
theorem dt_ret {SM : jS} {v : Int32} {Q : Int32 → jS → Prop} (h : Q v SM) : DT SM (fun S => some (0, v, S)) Q := fun _ => ⟨v, SM, h, fun S _ hS => ⟨S, rfl, hS⟩⟩
theorem dt_joinSX {SM : jS} {K : jS → Int32 → Option (jR jS)} {B : jS → (jS → Int32 → Option (jR jS)) → Option (jR jS)} {Q : Int32 → jS → Prop} (R : jS → Int32 → Prop) (hK : ∀ SM1 x, R SM1 x → DT SM1 (fun S => K S x) Q) (hB : ∀ k : jS → Int32 → Option (jR jS), (∀ SM1 x, R SM1 x → DT SM1 (fun S => k S x) Q) → DT SM (fun S => B S k) Q) : DT SM (fun S => joinK K (B S)) Q := hB K hK
theorem dt_joinS {SM : jS} {K : jS → Option (jR jS)} {B : jS → (jS → Option (jR jS)) → Option (jR jS)} {Q : Int32 → jS → Prop} (R : jS → Prop) (hK : ∀ SM1, R SM1 → DT SM1 (fun S => K S) Q) (hB : ∀ k : jS → Option (jR jS), (∀ SM1, R SM1 → DT SM1 (fun S => k S) Q) → DT SM (fun S => B S k) Q) : DT SM (fun S => joinK K (B S)) Q := hB K hK
theorem dt_joinX {SM : jS} {K : jS → Int32 → Option (jR jS)} {B : jS → (Int32 → Option (jR jS)) → Option (jR jS)} {Q : Int32 → jS → Prop} (R : Int32 → Prop) (hK : ∀ x, R x → DT SM (fun S => K S x) Q) (hB : ∀ k : jS → Int32 → Option (jR jS), (∀ x, R x → DT SM (fun S => k S x) Q) → DT SM (fun S => B S (k S)) Q) : DT SM (fun S => joinK (K S) (B S)) Q := hB K hK
theorem dt_of {SM : jS} {F : jS → Option (jR jS)} {om : Option (jR jS)} {c1 c2 c3 v : Int32} {R : jS → Prop} {Q : Int32 → jS → Prop} (hag : ∀ S L, InvL S L SM → AGv (F S) c1 c2 c3 om (fun S1 SM1 => InvL S1 L SM1)) (hc : ∀ S L, InvL S L SM → ∃ S1, F S = some (0, v, S1) ∧ R S1) (hq : ∀ S1 L SM1, InvL S1 L SM1 → R S1 → Q v SM1) : DT SM F Q := by
  have key : ∀ S L, InvL S L SM → ∃ S1 SM1, F S = some (0, v, S1) ∧ om = some (0, v, SM1) ∧ InvL S1 L SM1 ∧ R S1 := fun S L hS => by
    obtain ⟨S1, e1, hr⟩ := hc S L hS
    rcases hag S L hS with ⟨v9, T1, SM9, f1, f2, f3, hJ, _⟩ | ⟨v9, v2, T1, SM9, f1, _⟩ | ⟨v9, v2, T1, SM9, f1, _⟩ | ⟨v9, v2, T1, SM9, f1, _⟩
    · cases e1.symm.trans f1
      exact ⟨S1, SM9, f1, f2, hJ, hr⟩
    · cases e1.symm.trans f1
    · cases e1.symm.trans f1
    · cases e1.symm.trans f1
  rintro ⟨S0, L0, h0⟩
  obtain ⟨S1, SM1, e1, e2, hI, hr⟩ := key S0 L0 h0
  refine ⟨v, SM1, hq S1 L0 SM1 hI hr, fun S L hS => ?_⟩
  obtain ⟨T1, SM2, g1, g2, hJ, _⟩ := key S L hS
  cases e2.symm.trans g2
  exact ⟨T1, g1, hJ⟩
theorem len_of {S SM : jS} {L : jLg} (h : InvL S L SM) {a : Nat} (ha : a ≤ 5) : SM 362 a = S (37 + 4 * a) 1 := by
  obtain ⟨n, _, e1, e2, _⟩ := h.2.1 a (by omega)
  exact e2.trans e1.symm
theorem dt_type {SM : jS} {a n s : Nat} {x : Int32} (ha : a ≤ 5) (hl : SM 362 a = Int32.ofNat n) (hn : n < 60) (hs : 33 ≤ s ∧ s ≤ 126) (hx : x = Int32.ofNat s) : DT SM (fun S => f_X10_type S (Int32.ofNat a) x) (fun v SM1 => v = Int32.ofNat (n + 1) ∧ SM1 362 a = Int32.ofNat (n + 1)) := by
  subst hx
  refine dt_of (v := Int32.ofNat (n + 1)) (R := fun S1 => S1 (37 + 4 * a) 1 = Int32.ofNat (n + 1)) (om := f_X11_type SM (Int32.ofNat a) (Int32.ofNat s)) (fun S L h => ag_2 h _ _) (fun S L h => ?_) (fun S1 L SM1 h hr => ⟨rfl, (len_of h ha).trans hr⟩)
  have e1 : S (37 + 4 * a) 1 = Int32.ofNat n := (len_of h ha).symm.trans hl
  have hq : (33 : Int32) ≤ Int32.ofNat s ∧ Int32.ofNat s ≤ 126 := by
    refine ⟨?_, (rg_le (n := 126) hs.2 (by omega)).2⟩
    have : (Int32.ofNat 33 ≤ Int32.ofNat s) = (33 ≤ s) := n32_le (by omega) (by omega)
    exact Eq.mpr this hs.1
  have e60 : Int32.ofNat n < (60 : Int32) := Eq.mpr (n32_lt' (n := n) (i := 60) (by omega) (by omega)) hn
  refine ⟨jset (jset S (38 + 4 * a) n (Int32.ofNat s)) (37 + 4 * a) 1 (Int32.ofNat (n + 1)), ?_, jset_at⟩
  unfold f_X10_type
  rw [f_aud_y (r5 ha), jbind_s, f_rng_y hq, jbind_s, chk_t (in6 ha), n32_c (by omega), e1, if_pos e60, f_append hn e1 hs.2, jbin0_s, jset_at, show 37 + 4 * a + 1 = 38 + 4 * a by omega]
theorem er1 : ∀ n, n < 61 → (if (0 : Int32) < Int32.ofNat n - 1 then Int32.ofNat n - 1 else 0) = Int32.ofNat (n - 1) := by decide +kernel
theorem er60 : ∀ n, n < 61 → (if (0 : Int32) < Int32.ofNat n - 60 then Int32.ofNat n - 60 else 0) = Int32.ofNat 0 := by decide +kernel
theorem dt_erase {SM : jS} {a n m : Nat} {x : Int32} (ha : a ≤ 5) (hl : SM 362 a = Int32.ofNat n) (hx : (1 : Int32) ≤ x) (hm : (if (0 : Int32) < Int32.ofNat n - x then Int32.ofNat n - x else 0) = Int32.ofNat m) : DT SM (fun S => f_X10_erase S (Int32.ofNat a) x) (fun v SM1 => v = Int32.ofNat m ∧ SM1 362 a = Int32.ofNat m) := by
  refine dt_of (v := Int32.ofNat m) (R := fun S1 => S1 (37 + 4 * a) 1 = Int32.ofNat m) (om := f_X11_erase SM (Int32.ofNat a) x) (fun S L h => ag_3 h _ _) (fun S L h => ?_) (fun S1 L SM1 h hr => ⟨rfl, (len_of h ha).trans hr⟩)
  have e1 : S (37 + 4 * a) 1 = Int32.ofNat n := (len_of h ha).symm.trans hl
  refine ⟨jset S (37 + 4 * a) 1 (Int32.ofNat m), ?_, jset_at⟩
  unfold f_X10_erase letE
  rw [f_aud_y (r5 ha), jbind_s, if_pos hx, chk_t (in6 ha), n32_c (by omega), e1, hm]
  dsimp only
  rw [jset_at]
theorem dt_fault {SM : jS} {a : Nat} (ha : a ≤ 5) : DT SM (fun S => f_X10_fault S (Int32.ofNat a)) (fun _ SM1 => SM1 = SM) := fun _ => ⟨vv (f_X11_faultOf SM (Int32.ofNat a)), SM, rfl, fun _ _ h => e_fault h ha⟩
def sgn (x : Int32) : Prop := ∃ s, (33 ≤ s ∧ s ≤ 126) ∧ x = Int32.ofNat s
theorem dt_tt {SM : jS} {a : Nat} {x : Int32} (ha : a ≤ 5) : DT SM (fun S => f_L_typeTest S (Int32.ofNat a) x) (fun v _ => ∃ k, k ≤ 60 ∧ v = Int32.ofNat k) := fun hex => by
  obtain ⟨n, hn, hl⟩ : ∃ n, n ≤ 60 ∧ SM 362 a = Int32.ofNat n := by
    obtain ⟨S0, L0, h0⟩ := hex
    obtain ⟨n, hn, _, e2, _⟩ := h0.2.1 a (by omega)
    exact ⟨n, hn, e2⟩
  unfold f_L_typeTest
  refine dt_bin (dt_erase (m := n - 1) ha hl (by decide) (er1 n (by omega))) (fun v SM1 hq => ?_) hex
  obtain ⟨rfl, e2⟩ := hq
  have h40 : (Int32.ofNat (n - 1) ≤ (40 : Int32)) = (n - 1 ≤ 40) := n32_le (n := n - 1) (i := 40) (by omega) (by omega)
  refine dt_ite (fun h9 => ?_) (fun _ => dt_ret ⟨n - 1, by omega, rfl⟩)
  have hm := Eq.mp h40 h9
  refine dt_joinSX (fun SM2 _ => ∃ r, r ≤ 41 ∧ SM2 362 a = Int32.ofNat r) (fun SM2 x9 hr => ?_) (fun k3 hk3 => ?_)
  · obtain ⟨r, hr, er⟩ := hr
    refine dt_low (n := 6) rfl (by omega) (by omega) (fun c hc => dt_low (n := 4) rfl (by omega) (by omega) (fun d hd => ?_))
    refine dt_joinSX (fun SM3 _ => ∃ r, r ≤ 42 ∧ SM3 362 a = Int32.ofNat r) (fun SM3 x34 hr3 => ?_) (fun k28 hk28 => ?_)
    · obtain ⟨r3, hr3, er3⟩ := hr3
      refine dt_ite (fun _ => ?_) (fun _ => ?_)
      · refine dt_joinSX (fun SM4 _ => ∃ r, r ≤ 43 ∧ SM4 362 a = Int32.ofNat r) (fun SM4 x45 hr4 => ?_) (fun k35 hk35 => ?_)
        · obtain ⟨r4, hr4, er4⟩ := hr4
          refine dt_joinX sgn (fun x51 hs => ?_) (fun k46 hk46 => ?_)
          · obtain ⟨s, s1, rfl⟩ := hs
            exact dt_bin (dt_type ha er4 (by omega) s1 rfl) (fun v SM5 h5 => dt_ret ⟨r4 + 1, by omega, h5.1⟩)
          · exact dt_ite (fun _ => hk46 42 ⟨42, by omega, rfl⟩) (fun _ => dt_low (n := 6) rfl (by omega) (by omega) (fun j hj => hk46 _ ⟨48 + j, by omega, n32_addn (a := 48) (b := j)⟩))
        · exact dt_ite (fun _ => dt_bin (dt_type (s := 116) ha er3 (by omega) (by omega) rfl) (fun v SM5 h5 => hk35 SM5 v ⟨r3 + 1, by omega, h5.2⟩)) (fun _ => dt_ite (fun _ => dt_bin (dt_type (s := 64) ha er3 (by omega) (by omega) rfl) (fun v SM5 h5 => hk35 SM5 v ⟨r3 + 1, by omega, h5.2⟩)) (fun _ => hk35 SM3 x34 ⟨r3, by omega, er3⟩))
      · refine dt_joinX sgn (fun x57 hs => ?_) (fun k56 hk56 => ?_)
        · obtain ⟨s, s1, rfl⟩ := hs
          exact dt_bin (dt_type ha er3 (by omega) s1 rfl) (fun v SM5 h5 => dt_low (n := 3) rfl (by omega) (by omega) (fun j hj => dt_bin (dt_type (s := 60 + j) ha h5.2 (by omega) (by omega) (n32_addn (a := 60) (b := j))) (fun v SM6 h6 => dt_low (n := 4) rfl (by omega) (by omega) (fun i hi => dt_bin (dt_type (s := 48 + i) ha h6.2 (by omega) (by omega) (n32_addn (a := 48) (b := i))) (fun v SM7 h7 => dt_ret ⟨r3 + 1 + 1 + 1, by omega, h7.1⟩)))))
        · exact dt_ite (fun _ => hk56 108 ⟨108, by omega, rfl⟩) (fun _ => dt_ite (fun _ => hk56 97 ⟨97, by omega, rfl⟩) (fun _ => hk56 112 ⟨112, by omega, rfl⟩))
    · exact dt_ite (fun _ => dt_bin (dt_type (s := 33) ha er (by omega) (by omega) rfl) (fun v SM5 h5 => hk28 SM5 v ⟨r + 1, by omega, h5.2⟩)) (fun _ => hk28 SM2 x9 ⟨r, by omega, er⟩)
  · refine dt_joinS (fun SM2 => ∃ r, r ≤ 60 ∧ SM2 362 a = Int32.ofNat r) (fun SM2 hr => ?_) (fun k4 hk4 => ?_)
    · obtain ⟨r, hr, er⟩ := hr
      exact dt_bin (dt_erase (m := 0) ha er (by decide) (er60 r (by omega))) (fun v SM3 h3 => hk3 SM3 v ⟨0, by omega, h3.2⟩)
    · refine dt_ite (fun _ => hk4 SM1 ⟨n - 1, by omega, e2⟩) (fun _ => dt_bin (dt_fault ha) (fun v5 SM2 e => ?_))
      subst e
      exact dt_ite (fun _ => dt_low (n := 2) rfl (by omega) (by omega) (fun j hj => dt_joinX sgn (fun x9 hs => by
        obtain ⟨s, s1, rfl⟩ := hs
        exact dt_bin (dt_type ha e2 (by omega) s1 rfl) (fun v SM5 h5 => hk3 SM5 v ⟨n - 1 + 1, by omega, h5.2⟩)) (fun k8 hk8 => dt_ite (fun _ => hk8 124 ⟨124, by omega, rfl⟩) (fun _ => hk8 38 ⟨38, by omega, rfl⟩)))) (fun _ => hk4 _ ⟨n - 1, by omega, e2⟩)
theorem ao_tt {a : Nat} {x : Int32} (ha : a ≤ 5) : ActOk (fun S L => jbin0 (f_L_typeTest S (Int32.ofNat a) x) (fun v S1 => some (0, v, (S1, L)))) := by
  intro SM S L h
  obtain ⟨v, SM1, ⟨k, hk, ek⟩, hd⟩ := dt_tt (x := x) ha ⟨S, L, h⟩
  have key : ∀ T L2, InvL T L2 SM → ∃ T1, jbin0 (f_L_typeTest T (Int32.ofNat a) x) (fun v S1 => some (0, v, (S1, L2))) = some (0, v, (T1, L2)) ∧ InvL T1 L2 SM1 := fun T L2 hT => by
    obtain ⟨T1, e, hI⟩ := hd T L2 hT
    have e : f_L_typeTest T (Int32.ofNat a) x = some (0, v, T1) := e
    exact ⟨T1, by rw [e, jbin0_s], hI⟩
  obtain ⟨S1, e, hI⟩ := key S L h
  refine ⟨v, S1, L, e, Or.inr ⟨by rw [ek]; exact n32_big (by omega), SM1, hI, fun T L2 hT => ?_⟩⟩
  obtain ⟨T1, e, hJ⟩ := key T L2 hT
  exact ⟨T1, L2, e, hJ⟩
end TTS
