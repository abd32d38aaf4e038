section LOG
/-- the log's entries -/
abbrev jLg : Type := List (Nat → Int32)
abbrev jSL : Type := jS × jLg
def logAt (L : jLg) (i : Int32) : Nat → Int32 := L.getD i.toNatClampNeg (fun _ => 0)
def ent5 (a b c d e : Int32) : Nat → Int32 := fun k => if k = 0 then a else if k = 1 then b else if k = 2 then c else if k = 3 then d else e
/-- from where on the new things lie: the law says -/
def lmt (D : va_G) : Nat := D.1 31
/-- where the log lies, and what is in it -/
def LogX (D : va_G) (B t0 : Nat) (L : jLg) (X : jMem) : Prop :=
  B + 358 ≤ lmt D ∧ ∃ (mc : Int32) (ad cap : Nat) (f : Nat → Option Nat), X (B + 66) = some (listC mc ad (Int32.ofNat L.length)) ∧ (0 < cap → X ad = some (objs D cap f)) ∧ L.length ≤ cap ∧ cap ≤ 600 ∧ ((cap = 0 ∧ ad = t0 ∧ t0 < B) ∨ (0 < cap ∧ lmt D ≤ ad)) ∧
    ∀ i : Nat, i < L.length → ∃ q, lmt D ≤ q ∧ f i = some q ∧ X q = some (entC (L.getD i (fun _ => 0)))
/-- where the list's array lies -/
def adOf (B : Nat) (X : jMem) : Option Nat := match X (B + 66) with
  | some (.inr (_, [_, .ref ad, _])) => some ad
  | _ => none
theorem adOf_of {B ad : Nat} {X : jMem} {mc n : Int32} (h : X (B + 66) = some (listC mc ad n)) : adOf B X = some ad := by
  unfold adOf
  rw [h]
/-- the same; all else below as in X0; and what else X0 knows is as it was -/
def LogK (D : va_G) (B t0 : Nat) (X0 : jMem) (L : jLg) (X : jMem) : Prop := LogX D B t0 L X ∧ (∀ q : Nat, q < B + 358 → q ≠ B + 66 → X q = X0 q) ∧ ∀ (q : Nat) (e : va_E), X0 q = some e → q ≠ B + 66 → some q ≠ adOf B X0 → X q = some e ∧ some q ≠ adOf B X
theorem LogK.rf {D : va_G} {B t0 : Nat} {L : jLg} {X : jMem} (h : LogX D B t0 L X) : LogK D B t0 X L X := ⟨h, fun _ _ _ => rfl, fun _ _ h1 _ h2 => ⟨h1, h2⟩⟩
theorem LogK.trans {D : va_G} {B t0 : Nat} {L L1 : jLg} {X0 X X1 : jMem} (h : LogK D B t0 X0 L X) (h1 : LogK D B t0 X L1 X1) : LogK D B t0 X0 L1 X1 := ⟨h1.1, fun q q1 q2 => (h1.2.1 q q1 q2).trans (h.2.1 q q1 q2), fun q e e1 e2 e3 => h1.2.2 q e (h.2.2 q e e1 e2 e3).1 e2 (h.2.2 q e e1 e2 e3).2⟩
theorem LogK.low {D : va_G} {B t0 q : Nat} {L : jLg} {X0 X : jMem} (h : LogK D B t0 X0 L X) (hq : lmt D ≤ q) : B + 358 ≤ q := Nat.le_trans h.1.1 hq
abbrev zD (D : va_G) : Nat → Prop := fun k => lmt D ≤ k
theorem memG_upX {D : va_G} {B : Nat} {S : jS} {X : jMem} {a : Nat} {e : va_E} (h : B + 358 ≤ a) : jUp (memG 0 358 D B S X) a e = memG 0 358 D B S (jUp X a e) := by
  funext q
  by_cases hq : q = a
  · subst hq
    rw [jUp_eq]
    unfold memG
    rw [if_neg (by omega), jUp_eq]
  · rw [jUp_ne hq]
    unfold memG
    rw [jUp_ne hq]
theorem memG_66 {D : va_G} {B : Nat} {S : jS} {X : jMem} : memG 0 358 D B S X (B + 66) = X (B + 66) := by
  unfold memG
  rw [Nat.add_sub_cancel_left, if_neg (fun h => h.2.2 (by decide +kernel))]
theorem memG_up66 {D : va_G} {B : Nat} {S : jS} {X : jMem} {e : va_E} : jUp (memG 0 358 D B S X) (B + 66) e = memG 0 358 D B S (jUp X (B + 66) e) := by
  funext q
  by_cases hq : q = B + 66
  · subst hq
    rw [jUp_eq, memG_66, jUp_eq]
  · rw [jUp_ne hq]
    unfold memG
    rw [jUp_ne hq]
/-- a fresh place changes nothing -/
theorem LogX.fresh {D : va_G} {B t0 : Nat} {L : jLg} {X : jMem} {h : Nat} {e : va_E} (hL : LogX D B t0 L X) (hn : X h = none) : LogX D B t0 L (jUp X h e) := by
  obtain ⟨hlim, mc, ad, cap, f, h1, h2, h3, h4, h5, h6⟩ := hL
  have w : ∀ q e', X q = some e' → jUp X h e q = some e' := fun q e' hq => (jUp_ne (fun q9 => by rw [q9, hn] at hq; cases hq)).trans hq
  exact ⟨hlim, mc, ad, cap, f, w _ _ h1, fun hc => w _ _ (h2 hc), h3, h4, h5, fun i hi => (h6 i hi).imp fun q hq => ⟨hq.1, hq.2.1, w _ _ hq.2.2⟩⟩
theorem LogX.ent {D : va_G} {B t0 : Nat} {L : jLg} {X : jMem} {h : Nat} {e e1 : Nat → Int32} (hL : LogX D B t0 L (jUp X h (entC e))) (hn : LogX D B t0 L X) (hh : lmt D ≤ h) (hf : X h = none) : LogX D B t0 L (jUp X h (entC e1)) := hn.fresh hf
theorem n32_ltn {i : Int32} {n : Nat} (h0 : ¬ i < 0) (h : i.toNatClampNeg < n) (hn : n ≤ 100000) : i < Int32.ofNat n := by
  apply Int32.lt_iff_toInt_lt.mpr
  rw [Int32.toInt_ofNat_of_lt (by omega), n32_of h0 rfl]
  omega
variable {κ : jCx} {own : String} {cc : ByteArray} {nL : Nat} {ret : Option FieldType} {R : Room} {ρ : Type} {Qf : ρ → State → Prop} {o : Option ρ} {z : Nat → Prop} {bc bs : Nat} {lv : List (Nat × Value)} {pc : Nat} {st : List Value} {S : jS} {X9 X0 : jMem} {L : jLg}
/-- log.size() -/
theorem g_lsize (X : jX κ own cc nL ret) {idx : Nat} (hL : LogX (kD κ) (kB κ) (kT κ) L X9) (hl : Cond.methodLink own idx yJx4a65c_size_8abf5 ∈ BW) (d : decode cc pc = .ok (.invokevirtual idx, 3)) (hR : 1 ≤ R.frames ∧ 20 ≤ R.locals) (hW : (st.map fun v => v.category).sum ≤ 8)
    (kk : J κ nL R Qf o (memG 0 358 (kD κ) (kB κ) S X9) z bc bs lv (pc + 3) (.int (Int32.ofNat L.length) :: st)) : J κ nL R Qf o (memG 0 358 (kD κ) (kB κ) S X9) z bc bs lv pc (.ref (kB κ + 66) :: st) := by
  obtain ⟨hlim, mc, ad, cap, f, h1, -⟩ := hL
  have hM : memG 0 358 (kD κ) (kB κ) S X9 (kB κ + 66) = some (listC mc ad (Int32.ofNat L.length)) := memG_66.trans h1
  refine j_eq (o1 := jbin0 (some ((0 : Nat), Int32.ofNat L.length, ())) (fun v _ => chk (decide (v = Int32.ofNat L.length)) o)) (by simp [jbin0, chk]) ?_
  refine j_call0V X bc bs (c_AL_size X.tr _ z hM) me_Jx4a65c_size_8abf5 hl iv_Jx4a65c_size_8abf5 cf_Jx4a65c d hM (rest := st) rfl rfl ⟨by show 0 + 1 ≤ _; omega, by show 8 + (1 + 11) + 0 ≤ _; omega⟩ ⟨by show 0 + _ ≤ _; omega, by show 0 + _ ≤ _; omega⟩ hW (fun v S' M' hM' => ?_)
  subst hM'
  refine j_chk (fun hv => ?_)
  have hv : v = Int32.ofNat L.length := of_decide_eq_true hv
  subst hv
  exact kk
/-- log.get(i) -/
theorem g_lget (X : jX κ own cc nL ret) {idx : Nat} {i : Int32} (hL : LogX (kD κ) (kB κ) (kT κ) L X9) (hl : Cond.methodLink own idx yJx4a65c_get_915e3 ∈ BW) (d : decode cc pc = .ok (.invokevirtual idx, 3)) (hR : 3 ≤ R.frames ∧ 64 ≤ R.locals) (hW : (st.map fun v => v.category).sum ≤ 8)
    (kk : ∀ q, kB κ + 358 ≤ q → X9 q = some (entC (logAt L i)) → J κ nL R Qf o (memG 0 358 (kD κ) (kB κ) S X9) z bc bs lv (pc + 3) (.ref q :: st)) : J κ nL R Qf (chk (inb i L.length) o) (memG 0 358 (kD κ) (kB κ) S X9) z bc bs lv pc (.int i :: .ref (kB κ + 66) :: st) := by
  refine j_chk (fun hi => ?_)
  have h0 : ¬ i < 0 := by
    unfold inb at hi
    simp only [Bool.and_eq_true, Bool.not_eq_true', decide_eq_false_iff_not, decide_eq_true_eq] at hi
    exact hi.1
  have hlt := inb_lt hi
  obtain ⟨hlim, mc, ad, cap, f, h1, h2, h3, h4, h5, h6⟩ := hL
  obtain ⟨q, q1, q2, q3⟩ := h6 _ hlt
  have hM : memG 0 358 (kD κ) (kB κ) S X9 (kB κ + 66) = some (listC mc ad (Int32.ofNat L.length)) := memG_66.trans h1
  have hA : memG 0 358 (kD κ) (kB κ) S X9 ad = some (objs (kD κ) cap f) := (memG_out (by omega)).trans (h2 (by omega))
  refine j_eq (o1 := jbin0 (some ((0 : Nat), (0 : Int32), ())) (fun _ _ => o)) rfl ?_
  refine j_call0V X bc bs (c_AL_get X.tr _ z hM hA h0 (n32_ltn h0 hlt (by omega)) (fun h => h.elim h0 (fun h => by omega)) q2) me_Jx4a65c_get_915e3 hl iv_Jx4a65c_get_915e3 cf_Jx4a65c d hM (rest := st) rfl rfl ⟨by show 2 + 1 ≤ _; omega, by show 8 + (2 + 11) + 43 ≤ _; omega⟩ ⟨by show 0 + _ ≤ _; omega, by show 0 + _ ≤ _; omega⟩ hW (fun v S' M' hM' => ?_)
  subst hM'
  exact kk q (by omega) q3
/-- the cast to Entry -/
theorem g_lcast (X : jX κ own cc nL ret) {idx q : Nat} {e : Nat → Int32} (hl : Cond.classLink own idx RX1 ∈ BW) (d : decode cc pc = .ok (.checkcast idx, 3)) (hq : kB κ + 358 ≤ q) (he : X9 q = some (entC e))
    (kk : J κ nL R Qf o (memG 0 358 (kD κ) (kB κ) S X9) z bc bs lv (pc + 3) (.ref q :: st)) : J κ nL R Qf o (memG 0 358 (kD κ) (kB κ) S X9) z bc bs lv pc (.ref q :: st) := fun r ho H locs cells slots ls h1 h2 h3 h4 h5 h6 =>
  va_castS X.1 X.2.1 X.ow (X.hts _ hl) (X.K.1 2 _ cf_X1.1).2 (va_recv X.K (h1.one ((memG_out (Or.inr hq)).trans he)) (q0 := 0) cf_X1.1 rfl) d (kk r ho H locs cells slots ls h1 h2 h3 h4 h5 h6)
/-- log.add(e) -/
theorem g_ladd (X : jX κ own cc nL ret) {idx q : Nat} {e : Nat → Int32} (bc1 bs1 : Nat) (hK : LogK (kD κ) (kB κ) (kT κ) X0 L X9) (hl : Cond.methodLink own idx yJx4a65c_add_9ea2d ∈ BW) (d : decode cc pc = .ok (.invokevirtual idx, 3)) (hq : lmt (kD κ) ≤ q) (he : X9 q = some (entC e)) (hR : 7 ≤ R.frames ∧ 200 ≤ R.locals) (hW : (st.map fun v => v.category).sum ≤ 8) (hb : 1 + bc1 ≤ bc ∧ 600 + bs1 ≤ bs)
    (kk : ∀ X1, LogK (kD κ) (kB κ) (kT κ) X0 (L ++ [e]) X1 → X1 q = some (entC e) → ∀ v : Int32, J κ nL R Qf o (memG 0 358 (kD κ) (kB κ) S X1) (zD (kD κ)) bc1 bs1 lv (pc + 3) (.int v :: st)) : J κ nL R Qf (chk (decide (L.length < 400)) o) (memG 0 358 (kD κ) (kB κ) S X9) (zD (kD κ)) bc bs lv pc (.ref q :: .ref (kB κ + 66) :: st) := by
  refine j_chk (fun hlen => ?_)
  have hlen : L.length < 400 := of_decide_eq_true hlen
  obtain ⟨⟨hlim, mc, ad, cap, f, h1, h2, h3, h4, h5, h6⟩, hfr, hfr3⟩ := hK
  have hM : memG 0 358 (kD κ) (kB κ) S X9 (kB κ + 66) = some (listC mc ad (Int32.ofNat L.length)) := memG_66.trans h1
  have hA : 0 < cap → memG 0 358 (kD κ) (kB κ) S X9 ad = some (objs (kD κ) cap f) := fun hc => (memG_out (by omega)).trans (h2 hc)
  have hE : memG 0 358 (kD κ) (kB κ) S X9 q = some (entC e) := (memG_out (Or.inr (by omega))).trans he
  refine j_size X (fun h hz hlt hBh => ?_)
  have hz : lmt (kD κ) ≤ h := hz
  refine j_eq (o1 := jbin0 (some ((0 : Nat), (1 : Int32), ())) (fun _ _ => o)) rfl ?_
  refine j_call0V X bc1 bs1 (c_AL_add X.tr _ h (Nat.le_add_right _ _) hM hA hE h3 ⟨hlen, h4⟩ (h5.imp (fun q => ⟨q.1, q.2.1⟩) (fun q => ⟨q.1, by omega⟩)) (fun i hi y hy => by
      obtain ⟨q', q1, q2, q3⟩ := h6 i hi
      cases q2.symm.trans hy
      exact ⟨_, (memG_out (Or.inr (by omega))).trans q3⟩)) me_Jx4a65c_add_9ea2d hl iv_Jx4a65c_add_9ea2d cf_Jx4a65c d hM (rest := st) rfl rfl ⟨by show 6 + 1 ≤ _; omega, by show 8 + (2 + 11) + 172 ≤ _; omega⟩ ⟨by show 1 + _ ≤ _; omega, by show 600 + _ ≤ _; omega⟩ hW (fun v S' M' hM' => ?_)
  obtain ⟨ad', cap', g, rfl, q1, q2, q3, q4, q5⟩ := hM'
  have had : lmt (kD κ) ≤ ad' := by
    rcases q1 with ⟨r1, r2⟩ | r1
    · subst r1
      subst r2
      rcases h5 with ⟨h5, -⟩ | ⟨-, h5⟩
      · omega
      · exact h5
    · omega
  have hadX : ∀ q' e', lmt (kD κ) ≤ q' → X9 q' = some (entC e') → q' ≠ ad' := fun q' e' hq' hx' hqq => by
    subst hqq
    rcases q1 with ⟨r1, -⟩ | r1
    · subst r1
      have h8 := h2 (by omega)
      rw [hx'] at h8
      cases h8
    · have := hlt q' _ ((memG_out (Or.inr (by omega))).trans hx')
      omega
  rw [memG_upX (by omega), memG_up66]
  refine j_zle (z1 := zD (kD κ)) (fun n hn => Nat.le_trans hz hn) (kk _ ⟨⟨hlim, mc + 1, ad', cap', g, ?_, ?_, ?_, q3, Or.inr ⟨by omega, had⟩, fun i hi => ?_⟩, fun q' g1 g2 => ?_, fun q' e' g1 g2 g3 => ?_⟩ ?_ v)
  · rw [jUp_eq, List.length_append]
    rfl
  · exact fun _ => by rw [jUp_ne (by omega), jUp_eq]
  · rw [List.length_append]
    exact q2
  · rw [List.length_append] at hi
    have hi' : i < L.length + 1 := hi
    by_cases hin : i < L.length
    · obtain ⟨q', r1, r2, r3⟩ := h6 i hin
      refine ⟨q', r1, (q4 i hin).trans r2, ?_⟩
      rw [jUp_ne (by omega), jUp_ne (hadX q' _ r1 r3), r3, List.getD_eq_getElem?_getD, List.getD_eq_getElem?_getD, List.getElem?_append_left hin]
    · have hie : i = L.length := by omega
      subst hie
      refine ⟨q, hq, q5, ?_⟩
      rw [jUp_ne (by omega), jUp_ne (hadX q _ hq he), he]
      simp
  · rw [jUp_ne g2, jUp_ne (by omega)]
    exact hfr q' g1 g2
  · obtain ⟨g4, g5⟩ := hfr3 q' e' g1 g2 g3
    have hqa : q' ≠ ad' := fun hqq => by
      subst hqq
      rcases q1 with ⟨r1, -⟩ | r1
      · subst r1
        exact g5 (adOf_of h1).symm
      · by_cases hlo : q' < kB κ + 358
        · omega
        · have := hlt q' _ ((memG_out (Or.inr (by omega))).trans g4)
          omega
    refine ⟨by rw [jUp_ne g2, jUp_ne hqa]; exact g4, ?_⟩
    exact fun h9 => hqa (Option.some.inj (h9.trans (adOf_of jUp_eq)))
  · rw [jUp_ne (by omega), jUp_ne (hadX q _ hq he), he]
/-- new Entry -/
theorem g_lnew (X : jX κ own cc nL ret) {idx : Nat} (bc1 bs1 : Nat) (hK : LogK (kD κ) (kB κ) (kT κ) X0 L X9) (hl : Cond.classLink own idx RX1 ∈ BW) (d : decode cc pc = .ok (.new idx, 3)) (hb : 1 + bc1 ≤ bc ∧ 5 + bs1 ≤ bs)
    (kk : ∀ h : Nat, lmt (kD κ) ≤ h → (∀ e, LogK (kD κ) (kB κ) (kT κ) X0 L (jUp X9 h (entC e))) → J κ nL R Qf o (memG 0 358 (kD κ) (kB κ) S (jUp X9 h (entC (fun _ => 0)))) (zD (kD κ)) bc1 bs1 lv (pc + 3) (.ref h :: st)) : J κ nL R Qf o (memG 0 358 (kD κ) (kB κ) S X9) (zD (kD κ)) bc bs lv pc st := by
  have hlim := hK.1.1
  refine j_size X (fun h hz hlt hBh => ?_)
  have hz : lmt (kD κ) ≤ h := hz
  have hn : X9 h = none := by
    cases hx : X9 h with
    | none => rfl
    | some e => exact absurd (hlt h e ((memG_out (Or.inr (by omega))).trans hx)) (Nat.lt_irrefl _)
  refine j_new X cf_X1 hl ⟨it_X1, in_X1⟩ (fs := [.int 0, .int 0, .int 0, .int 0, .int 0]) (fun j hj => by
    match j, hj with
    | 0, _ => rfl
    | 1, _ => rfl
    | 2, _ => rfl
    | 3, _ => rfl
    | 4, _ => rfl) d hb ?_
  rw [memG_upX (by omega)]
  refine j_zle (z1 := zD (kD κ)) (fun n hn => by rw [hn]; exact Nat.le_trans hz (Nat.le_succ _)) (kk h hz (fun e => ⟨hK.1.fresh hn, fun q q1 q2 => (jUp_ne (by omega)).trans (hK.2.1 q q1 q2), fun q e' e1 e2 e3 => ?_⟩))
  obtain ⟨g4, g5⟩ := hK.2.2 q e' e1 e2 e3
  refine ⟨(jUp_ne (fun h9 => by subst h9; rw [hn] at g4; cases g4)).trans g4, ?_⟩
  have e66 : adOf (kB κ) (jUp X9 h (entC e)) = adOf (kB κ) X9 := by
    unfold adOf
    rw [jUp_ne (by omega)]
  rw [e66]
  exact g5
abbrev rm_X1_init : Room := { frames := 1, cells := 0, slots := 0, locals := 14 }
theorem c_X1_init {l : Launch} {D : va_G} {B t0 : Nat} (hl9 : l.stackTraces = false) (M : jMem) (z : Nat → Prop) {q : Nat} {e : Nat → Int32} (hq : B ≤ q) (he : M q = some (entC e)) (p1 p2 p3 p4 p5 : Int32) : jCf l D B t0 yX1_init cX1_init 6 none rm_X1_init [.ref q, .int p1, .int p2, .int p3, .int p4, .int p5] M z (some (0, 0, ())) rvV (fun (_ : Unit) M9 => M9 = jUp M q (entC (ent5 p1 p2 p3 p4 p5))) z := by
  refine jC_of hl9 (me_X1_init).1 [(0, .ref q), (1, .int p1), (2, .int p2), (3, .int p3), (4, .int p4), (5, .int p5)] ⟨by decide +kernel, Nat.le_of_ble_eq_true rfl⟩ rfl (fun κ hl hD hB hT X htab hin => ?_)
  subst hl hD hB hT
  have X : jX κ RX1 cX1_init 6 none := X
  refine j_aload_n X 0 rfl dX1_init_0 rfl ?_
  refine j_objInit X ml_X1_3 im_objInit co_objInit dX1_init_1 ⟨Nat.le_refl _, Nat.le_of_ble_eq_true rfl⟩ ?_
  refine j_aload_n X 0 rfl dX1_init_4 rfl ?_
  refine j_iload_n X 1 rfl dX1_init_5 rfl ?_
  refine j_putF X 0 (hin rfl) cf_X1 (by decide) fl_X1_9 dX1_init_6 rfl rfl rfl rfl hq he (Nat.le_of_ble_eq_true rfl) ?_
  refine j_aload_n X 0 rfl dX1_init_9 rfl ?_
  refine j_iload_n X 2 rfl dX1_init_10 rfl ?_
  refine j_putF X 1 (hin rfl) cf_X1 (by decide) fl_X1_15 dX1_init_11 rfl rfl rfl rfl hq jUp_eq (Nat.le_of_ble_eq_true rfl) ?_
  refine j_aload_n X 0 rfl dX1_init_14 rfl ?_
  refine j_iload_n X 3 rfl dX1_init_15 rfl ?_
  refine j_putF X 2 (hin rfl) cf_X1 (by decide) fl_X1_18 dX1_init_16 rfl rfl rfl rfl hq jUp_eq (Nat.le_of_ble_eq_true rfl) ?_
  refine j_aload_n X 0 rfl dX1_init_19 rfl ?_
  refine j_iload X 4 rfl dX1_init_20 ?_
  refine j_putF X 3 (hin rfl) cf_X1 (by decide) fl_X1_21 dX1_init_22 rfl rfl rfl rfl hq jUp_eq (Nat.le_of_ble_eq_true rfl) ?_
  refine j_aload_n X 0 rfl dX1_init_25 rfl ?_
  refine j_iload X 5 rfl dX1_init_26 ?_
  refine j_putF X 4 (hin rfl) cf_X1 (by decide) fl_X1_24 dX1_init_28 rfl rfl rfl rfl hq jUp_eq (Nat.le_of_ble_eq_true rfl) ?_
  refine j_vret X dX1_init_31 ?_ (fun _ h => h)
  rw [jUp_up, jUp_up, jUp_up, jUp_up]
  rfl
/-- new Entry's constructor -/
theorem g_linit (X : jX κ own cc nL ret) {idx h : Nat} {p1 p2 p3 p4 p5 : Int32} (hl : Cond.methodLink own idx yX1_init ∈ BW) (d : decode cc pc = .ok (.invokespecial idx, 3)) (hh : kB κ + 358 ≤ h) (hR : 2 ≤ R.frames ∧ 39 ≤ R.locals) (hW : (st.map fun v => v.category).sum ≤ 8)
    (kk : J κ nL R Qf o (memG 0 358 (kD κ) (kB κ) S (jUp X9 h (entC (ent5 p1 p2 p3 p4 p5)))) z bc bs lv (pc + 3) st) : J κ nL R Qf o (memG 0 358 (kD κ) (kB κ) S (jUp X9 h (entC (fun _ => 0)))) z bc bs lv pc (.int p5 :: .int p4 :: .int p3 :: .int p2 :: .int p1 :: .ref h :: st) := by
  have hM : memG 0 358 (kD κ) (kB κ) S (jUp X9 h (entC (fun _ => 0))) h = some (entC (fun _ => 0)) := (memG_out (Or.inr (by omega))).trans jUp_eq
  refine j_eq (o1 := jbin0 (some ((0 : Nat), (0 : Int32), ())) (fun _ _ => o)) rfl ?_
  refine j_call0I X bc bs (c_X1_init X.tr _ z (by omega) hM p1 p2 p3 p4 p5) me_X1_init hl ii_X1_init d (rest := st) rfl rfl ⟨by show 1 + 1 ≤ _; omega, by show 8 + (6 + 11) + 14 ≤ _; omega⟩ ⟨by show 0 + _ ≤ _; omega, by show 0 + _ ≤ _; omega⟩ hW (fun v S' M' hM' => ?_)
  subst hM'
  rw [memG_upX (by omega), jUp_up]
  exact kk
end LOG
