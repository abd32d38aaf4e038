section JCB
variable {κ : jCx} {own : String} {cc : ByteArray} {nL : Nat} {ret : Option FieldType} {R : Room} {ρ : Type} {Qf : ρ → State → Prop} {M : jMem} {z : Nat → Prop} {bc bs : Nat} {lv : List (Nat × Value)} {pc : Nat} {st : List Value}
theorem jMet0 {l : Launch} {y : MethodName} {ws : List Cond} {rm : Room} {Pc : Array Value → State → Prop} {Qc : Array Value → State → Outcome → State → Prop} {XC : String → State → State → Prop} {mc ms : Nat} {free : Addr → Prop} (h : vx_Met l y ws rm Pc Qc XC mc ms free) (hx : ∀ E s t, ¬ XC E s t) : Met l y ws rm Pc Qc mc ms free :=
  MetFree.mono h (fun _ _ h => h) (fun _ _ _ _ _ h => h) (fun a s o t _ hq => hq.elim id (fun ⟨q, _, E, ce, L, hx', _⟩ => (hx E s t hx').elim))
/-- a computation behind a call's that never throws -/
def jbin0 {α ρ : Type} (o : Option (jR α)) (k : Int32 → α → Option ρ) : Option ρ :=
  match o with
  | some (0, v, S) => k v S
  | _ => none
theorem j_run0 {rest : List Value} {σ1 : Type} {o1 : Option (jR σ1)} {rv1 : Int32 → Option Value} {PM1 : σ1 → jMem → Prop} {z1 : Nat → Prop} {kf : Int32 → σ1 → Option ρ} {bc1 bs1 : Nat} {R1 : Room} {a : Array Value} (hb : R1.cells + bc1 ≤ bc ∧ R1.slots + bs1 ≤ bs)
    (hrun : ∀ v S1, o1 = some (0, v, S1) → ∀ (H : Heap) (locs : List Loc) (cells slots : Nat) (ls : Array Slot), jRep (kD κ) M H → z H.size → va_S (fun q => kB κ ≤ q) (kS κ).heap H locs → cells + bc ≤ R.cells → slots + bs ≤ R.slots → lv_has ls nL lv →
      va_Run (kP κ) (kL κ) (kE κ) R (kS κ) (kM κ) (kA κ) (kF κ) (kMe κ) (kC κ) H locs cells slots R1.cells R1.slots (F0 (kM κ) pc ls st) rest (jQ (kD κ) (kB κ) 0 (rv1 v) (fun M n => PM1 S1 M ∧ z1 n) a) (fun q => kB κ ≤ q))
    (kk : ∀ v S' M', PM1 S' M' → J κ nL R Qf (kf v S') M' z1 bc1 bs1 lv (pc + 3) ((rv1 v).toList ++ rest)) :
    J κ nL R Qf (jbin0 o1 kf) M z bc bs lv pc st := fun r ho H locs cells slots ls h1 h2 h3 h4 h5 h6 => by
  obtain ⟨hb1, hb2⟩ := hb
  cases ho1 : o1 with
  | none => rw [ho1] at ho; cases ho
  | some r1 =>
    obtain ⟨tg, v, S1⟩ := r1
    cases tg with
    | succ tg => rw [ho1] at ho; cases ho
    | zero =>
      intro T hT Xs
      obtain ⟨w, st₀, t, T', L, h0, X', hL, e1, e2, ⟨etg, ew, ⟨M', hpm, hrep⟩, hF⟩, stp⟩ := hrun v S1 ho1 H locs cells slots ls h1 h2 h3 h4 h5 h6 T hT Xs
      cases ew
      rw [ho1] at ho
      have h3' := j_after (σ1 := σ1) (R1 := R1) (cells := cells) (slots := slots) (PM1 := fun _ _ => True) h3 h0 hL hF
      obtain ⟨t2, a1, b1⟩ := kk v S1 M' hpm.1 r ho t.heap (locs ++ L) (cells + R1.cells) (slots + R1.slots) ls hrep hpm.2 h3' (by omega) (by omega) h6 T' e1 X'
      exact ⟨t2, stp t2 a1, b1⟩
theorem jX0 {D : va_G} {B : Nat} {PM : jMem → Nat → Prop} : ∀ E s t, ¬ jXC D B 0 PM E s t := fun _ _ _ h => h.1 rfl
section
variable {y : MethodName} {c1 : ByteArray} {nL1 n idx : Nat} {ret1 : Option FieldType} {R1 : Room} {b ci N : Nat} {T : u_T} {ty : Nat → FieldType} {fs : List Value} {av rest : List Value} {σ1 : Type} {o1 : Option (jR σ1)} {rv1 : Int32 → Option Value} {PM1 : σ1 → jMem → Prop} {z1 : Nat → Prop} {kf : Int32 → σ1 → Option ρ}
/-- invokestatic that never throws, its own class -/
theorem j_call0S (X : jX κ own cc nL ret) (bc1 bs1 : Nat)
    (hm : jCf (kL κ) (kD κ) (kB κ) (kT κ) y c1 nL1 ret1 R1 av M z o1 rv1 PM1 z1) (hme : jMe y c1 nL1 ret1 n) (hl : Cond.methodLink own idx y ∈ BW) (hs : Cond.static y ∈ BW) (d : decode cc pc = .ok (.invokestatic idx, 3)) (hst : st = av.reverse ++ rest) (hn : av.length = n)
    (hR : R1.frames + 1 ≤ R.frames ∧ 8 + (nL1 + 11) + R1.locals ≤ R.locals) (hb : R1.cells + bc1 ≤ bc ∧ R1.slots + bs1 ≤ bs) (hW : (rest.map fun v => v.category).sum ≤ 8)
    (kk : ∀ v S' M', PM1 S' M' → J κ nL R Qf (kf v S') M' z1 bc1 bs1 lv (pc + 3) ((rv1 v).toList ++ rest)) :
    J κ nL R Qf (jbin0 o1 kf) M z bc bs lv pc st := by
  refine j_run0 hb (a := av.toArray) (fun v S1 ho1 H locs cells slots ls h1 h2 h3 h4 h5 h6 => ?_) kk
  exact va_runS X.fix (jMet0 (hm _ ho1) jX0) ⟨callB_of n X.hts (jgood hme.1) rfl rfl rfl (X.hts _ hme.2.1) (X.hts _ hl) hme.2.2 hR, X.hts _ hs⟩ ⟨jIn_blind, j_pre X h1 h2 h3⟩ rfl hn h6.1 hst (lv_room hW) d ⟨by omega, by omega⟩
/-- the same, a nest mate's -/
theorem j_call0SN (X : jX κ own cc nL ret) (bc1 bs1 : Nat) {host : String}
    (hm : jCf (kL κ) (kD κ) (kB κ) (kT κ) y c1 nL1 ret1 R1 av M z o1 rv1 PM1 z1) (hme : jMe y c1 nL1 ret1 n) (hl : Cond.methodLinkNest own idx y host ∈ tables_1) (hs : Cond.static y ∈ BW) (d : decode cc pc = .ok (.invokestatic idx, 3)) (hst : st = av.reverse ++ rest) (hn : av.length = n)
    (hR : R1.frames + 1 ≤ R.frames ∧ 8 + (nL1 + 11) + R1.locals ≤ R.locals) (hb : R1.cells + bc1 ≤ bc ∧ R1.slots + bs1 ≤ bs) (hW : (rest.map fun v => v.category).sum ≤ 8)
    (kk : ∀ v S' M', PM1 S' M' → J κ nL R Qf (kf v S') M' z1 bc1 bs1 lv (pc + 3) ((rv1 v).toList ++ rest)) :
    J κ nL R Qf (jbin0 o1 kf) M z bc bs lv pc st := by
  refine j_run0 hb (a := av.toArray) (fun v S1 ho1 H locs cells slots ls h1 h2 h3 h4 h5 h6 => ?_) kk
  exact va_runSN X.fix (jMet0 (hm _ ho1) jX0) ⟨va_cnB n X.hts (jgood hme.1) rfl rfl rfl (X.nest hl rfl) (X.hts _ hme.2.1) hme.2.2 hR, X.hts _ hs, trivial⟩ ⟨jIn_blind, j_pre X h1 h2 h3⟩ rfl hn h6.1 hst (lv_room hW) d ⟨by omega, by omega⟩
/-- invokevirtual that never throws -/
theorem j_call0V (X : jX κ own cc nL ret) (bc1 bs1 : Nat)
    (hm : jCf (kL κ) (kD κ) (kB κ) (kT κ) y c1 nL1 ret1 R1 (.ref b :: av) M z o1 rv1 PM1 z1) (hme : jMe y c1 nL1 ret1 n) (hl : Cond.methodLink own idx y ∈ BW) (hs : Cond.instanceMethod y ∈ BW ∧ Cond.selects y.cls y y ∈ BW) (hcl : jCl ci y.cls T N ty) (d : decode cc pc = .ok (.invokevirtual idx, 3)) (hM : M b = some (.inr (ci, fs))) (hst : st = av.reverse ++ .ref b :: rest) (hn : av.length = n)
    (hR : R1.frames + 1 ≤ R.frames ∧ 8 + (nL1 + 11) + R1.locals ≤ R.locals) (hb : R1.cells + bc1 ≤ bc ∧ R1.slots + bs1 ≤ bs) (hW : (rest.map fun v => v.category).sum ≤ 8)
    (kk : ∀ v S' M', PM1 S' M' → J κ nL R Qf (kf v S') M' z1 bc1 bs1 lv (pc + 3) ((rv1 v).toList ++ rest)) :
    J κ nL R Qf (jbin0 o1 kf) M z bc bs lv pc st := by
  refine j_run0 hb (a := (Value.ref b :: av).toArray) (fun v S1 ho1 H locs cells slots ls h1 h2 h3 h4 h5 h6 => ?_) kk
  exact va_runV X.fix (jMet0 (hm _ ho1) jX0) ⟨callB_of n X.hts (jgood hme.1) rfl rfl rfl (X.hts _ hme.2.1) (X.hts _ hl) hme.2.2 hR, X.hts _ hs.1, X.hts _ hs.2⟩ ⟨jIn_blind, va_recv X.K (h1.one hM) (q0 := 0) hcl.1 rfl, j_pre X h1 h2 h3⟩ rfl hn h6.1 hst (lv_room hW) d ⟨by omega, by omega⟩
/-- invokespecial of a constructor -/
theorem j_call0I (X : jX κ own cc nL ret) (bc1 bs1 : Nat)
    (hm : jCf (kL κ) (kD κ) (kB κ) (kT κ) y c1 nL1 none R1 (.ref b :: av) M z o1 rvV PM1 z1) (hme : jMe y c1 nL1 none n) (hl : Cond.methodLink own idx y ∈ BW) (hs : y.name = "<init>" ∧ Cond.instanceMethod y ∈ BW) (d : decode cc pc = .ok (.invokespecial idx, 3)) (hst : st = av.reverse ++ .ref b :: rest) (hn : av.length = n)
    (hR : R1.frames + 1 ≤ R.frames ∧ 8 + (nL1 + 11) + R1.locals ≤ R.locals) (hb : R1.cells + bc1 ≤ bc ∧ R1.slots + bs1 ≤ bs) (hW : (rest.map fun v => v.category).sum ≤ 8)
    (kk : ∀ v S' M', PM1 S' M' → J κ nL R Qf (kf v S') M' z1 bc1 bs1 lv (pc + 3) rest) :
    J κ nL R Qf (jbin0 o1 kf) M z bc bs lv pc st := by
  refine j_run0 (rv1 := rvV) (rest := rest) hb (a := (Value.ref b :: av).toArray) (fun v S1 ho1 H locs cells slots ls h1 h2 h3 h4 h5 h6 => ?_) kk
  exact va_runI X.fix (jMet0 (hm _ ho1) jX0) ⟨callB_of n X.hts (jgood hme.1) rfl rfl rfl (X.hts _ hme.2.1) (X.hts _ hl) hme.2.2 hR, hs.1, X.hts _ hs.2⟩ ⟨jIn_blind, j_pre X h1 h2 h3⟩ rfl hn h6.1 hst (lv_room hW) d ⟨by omega, by omega⟩
/-- the same, a nest mate's -/
theorem j_call0IN (X : jX κ own cc nL ret) (bc1 bs1 : Nat) {host : String}
    (hm : jCf (kL κ) (kD κ) (kB κ) (kT κ) y c1 nL1 none R1 (.ref b :: av) M z o1 rvV PM1 z1) (hme : jMe y c1 nL1 none n) (hl : Cond.methodLinkNest own idx y host ∈ tables_1) (hs : y.name = "<init>" ∧ Cond.instanceMethod y ∈ BW) (d : decode cc pc = .ok (.invokespecial idx, 3)) (hst : st = av.reverse ++ .ref b :: rest) (hn : av.length = n)
    (hR : R1.frames + 1 ≤ R.frames ∧ 8 + (nL1 + 11) + R1.locals ≤ R.locals) (hb : R1.cells + bc1 ≤ bc ∧ R1.slots + bs1 ≤ bs) (hW : (rest.map fun v => v.category).sum ≤ 8)
    (kk : ∀ v S' M', PM1 S' M' → J κ nL R Qf (kf v S') M' z1 bc1 bs1 lv (pc + 3) rest) :
    J κ nL R Qf (jbin0 o1 kf) M z bc bs lv pc st := by
  refine j_run0 (rv1 := rvV) (rest := rest) hb (a := (Value.ref b :: av).toArray) (fun v S1 ho1 H locs cells slots ls h1 h2 h3 h4 h5 h6 => ?_) kk
  exact va_runIN X.fix (jMet0 (hm _ ho1) jX0) ⟨va_cnB n X.hts (jgood hme.1) rfl rfl rfl (X.nest hl rfl) (X.hts _ hme.2.1) hme.2.2 hR, hs.1, X.hts _ hs.2⟩ ⟨jIn_blind, j_pre X h1 h2 h3⟩ rfl hn h6.1 hst (lv_room hW) d ⟨by omega, by omega⟩
end
/-- Object's constructor -/
theorem j_objInit {o : Option ρ} (X : jX κ own cc nL ret) {idx a : Nat} (hl : Cond.methodLink own idx objectInit ∈ BW) (hi : Cond.instanceMethod objectInit ∈ BW) (hc : Cond.code objectInit ⟨#[0xb1]⟩ 1 none ∈ BW) (d : decode cc pc = .ok (.invokespecial idx, 3)) (hR : 1 ≤ R.frames ∧ (st.map fun v => v.category).sum + 12 ≤ R.locals)
    (k : J κ nL R Qf o M z bc bs lv (pc + 3) st) : J κ nL R Qf o M z bc bs lv pc (.ref a :: st) := fun r ho H locs cells slots ls h1 h2 h3 h4 h5 h6 =>
  W.objInit X.1 X.2.1 X.ow (X.hts _ hl) (X.hts _ hi) (X.hts _ hc) rfl (by rw [X.ml]; exact h6.1) rfl d hR.1 (by show 2 * 0 + (st.map fun v => v.category).sum + 12 ≤ R.locals; omega) (W.eq rfl (k r ho H locs cells slots ls h1 h2 h3 h4 h5 h6))
/-- Math.max -/
theorem j_mmax {o : Option ρ} (X : jX κ own cc nL ret) {idx : Nat} {x y : Int32} (hl : Cond.methodLink own idx Lib.Math.max.name ∈ BW) (hs : Cond.static Lib.Math.max.name ∈ BW) (hi : Cond.initialized "java/lang/Math" ∈ BW) (hc : Cond.code Lib.Math.max.name Lib.Math.max.code 2 (some .int) ∈ BW) (d : decode cc pc = .ok (.invokestatic idx, 3)) (hR : 1 ≤ R.frames ∧ (st.map fun v => v.category).sum + 13 ≤ R.locals)
    (k : J κ nL R Qf o M z bc bs lv (pc + 3) (.int (if x < y then y else x) :: st)) : J κ nL R Qf o M z bc bs lv pc (.int y :: .int x :: st) := fun r ho H locs cells slots ls h1 h2 h3 h4 h5 h6 =>
  va_mmax X.1 X.2.1 (by rw [X.ml]; exact h6.1.symm) X.ow (X.hts _ hl) (X.hts _ hs) (X.hts _ hi) (X.hts _ hc) hR.1 hR.2 (by omega) (by omega) d (k r ho H locs cells slots ls h1 h2 h3 h4 h5 h6)
/-! making -/
theorem j_fresh {D : va_G} {M : jMem} {H H1 : Heap} {e : va_E} (h1 : jRep D M H) (ho : ∀ q, q < H.size → H1[q]? = H[q]?) (he : va_at D vwCl (H.size, e) H1) : jRep D (jUp M H.size e) H1 := by
  intro q e' hq
  unfold jUp at hq
  by_cases hqa : q = H.size
  · subst hqa
    rw [if_pos rfl] at hq
    cases hq
    exact he
  · rw [if_neg hqa] at hq
    exact (h1 q e' hq).kept (ho q (h1.lt hq))
theorem j_new {o : Option ρ} (X : jX κ own cc nL ret) {ci : Nat} {C : String} {T : u_T} {N idx h bc1 bs1 : Nat} {ty : Nat → FieldType} {fs : List Value} (hcl : jCl ci C T N ty) (hl : Cond.classLink own idx C ∈ BW) (hi : Cond.instantiable C N ∈ BW ∧ Cond.initialized C ∈ BW) (hfs : ∀ j, j < N → defaultValue (ty j) = vp_V fs j) (d : decode cc pc = .ok (.new idx, 3)) (hb : 1 + bc1 ≤ bc ∧ N + bs1 ≤ bs)
    (k : J κ nL R Qf o (jUp M h (.inr (ci, fs))) (fun n => n = h + 1) bc1 bs1 lv (pc + 3) (.ref h :: st)) : J κ nL R Qf o M (fun n => n = h) bc bs lv pc st := fun r ho H locs cells slots ls h1 h2 h3 h4 h5 h6 => by
  have hKn := X.K.1 ci _ hcl.1
  subst h2
  refine W.newcK X.1 X.2.1 X.ow (X.hts _ hl) (X.hts _ hi.1) (X.hts _ hi.2) rfl d (by omega) (by omega) hKn.2.1 rfl fun H1 kC hkC e1 z1 o1 => ?_
  exact k r ho H1 locs (cells + 1) (slots + N) ls (j_fresh h1 o1 ⟨_, hcl.1, (u_born ty X.hts hcl.2.1 hKn hkC e1 hcl.2.2.1).to hfs⟩) z1 ⟨Nat.le_trans h3.1 (by omega), fun x g1 g2 => (o1 x (Nat.lt_of_lt_of_le g1 h3.1)).trans (h3.2.1 x g1 g2), h3.2.2⟩ (by omega) (by omega) h6
/-- 'new', where the size isn't known -/
theorem j_newU {o : Option ρ} (X : jX κ own cc nL ret) {ci : Nat} {C : String} {T : u_T} {N idx bc1 bs1 : Nat} {ty : Nat → FieldType} {fs : List Value} (hcl : jCl ci C T N ty) (hl : Cond.classLink own idx C ∈ BW) (hi : Cond.instantiable C N ∈ BW ∧ Cond.initialized C ∈ BW) (hfs : ∀ j, j < N → defaultValue (ty j) = vp_V fs j) (d : decode cc pc = .ok (.new idx, 3)) (hb : 1 + bc1 ≤ bc ∧ N + bs1 ≤ bs)
    (k : ∀ h : Nat, M h = none → (∀ a e, M a = some e → a < h) → kB κ ≤ h → J κ nL R Qf o (jUp M h (.inr (ci, fs))) (fun n => n = h + 1) bc1 bs1 lv (pc + 3) (.ref h :: st)) : J κ nL R Qf o M z bc bs lv pc st := fun r ho H locs cells slots ls h1 h2 h3 h4 h5 h6 => by
  have hlt : ∀ a e, M a = some e → a < H.size := fun a e he => h1.lt he
  have hn : M H.size = none := by
    cases hM : M H.size with
    | none => rfl
    | some e => exact absurd (hlt _ _ hM) (Nat.lt_irrefl _)
  exact j_new X hcl hl hi hfs d hb (k H.size hn hlt (Nat.le_trans X.k.2.2.2.2.2.2 h3.1)) r ho H locs cells slots ls h1 rfl h3 h4 h5 h6
end JCB
