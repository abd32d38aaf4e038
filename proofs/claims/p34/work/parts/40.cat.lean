section CAT
def jwsH (y : MethodName) (cc : ByteArray) (nL : Nat) (ret : Option FieldType) (hh : List (Nat × Nat × Nat × Nat)) : List Cond := .codeWith y cc nL ret hh :: BW
/-- the contract of a method with handlers -/
def jCfH (l : Launch) (D : va_G) (B t0 : Nat) (y : MethodName) (cc : ByteArray) (nL : Nat) (ret : Option FieldType) (hh : List (Nat × Nat × Nat × Nat)) (R : Room) (av : List Value) (M : jMem) (z : Nat → Prop) {σ : Type} (o : Option (jR σ)) (rv : Int32 → Option Value) (PM : σ → jMem → Prop) (z' : Nat → Prop) : Prop :=
  ∀ r, o = some r → vx_Met l y (jwsH y cc nL ret hh) R (va_Pc av (jIn D B t0 M z)) (jQ D B r.1 (rv r.2.1) (fun M n => PM r.2.2 M ∧ z' n)) (jXC D B r.1 (fun M _ => PM r.2.2 M)) R.cells R.slots (fun q => B ≤ q)
theorem jC_ofH {l : Launch} {D : va_G} {B t0 : Nat} {y : MethodName} {cc : ByteArray} {nL : Nat} {ret : Option FieldType} {hh : List (Nat × Nat × Nat × Nat)} {R : Room} {av : List Value} {M : jMem} {z z' : Nat → Prop} {σ : Type} {o : Option (jR σ)} {rv : Int32 → Option Value} {PM : σ → jMem → Prop} (hl : l.stackTraces = false) (lv0 : List (Nat × Value))
    (hy : plainName y.cls = true ∧ (lg_sl av).length ≤ nL) (hlv : lv_args 0 av = lv0)
    (body : ∀ κ : jCx, kL κ = l → kD κ = D → kB κ = B → kT κ = t0 → jX κ y.cls cc nL ret → (kC κ).exceptionTable.toList = tableOf hh → J κ nL R (jQf κ R rv PM z') o M z R.cells R.slots lv0 0 []) :
    jCfH l D B t0 y cc nL ret hh R av M z o rv PM z' := by
  intro r ho
  refine vx_ofWH (ws' := BW) (cc := cc) (maxL := nL) (ret := ret) (hh := hh) hy.1 rfl ?_
  intro p e s m args below meth c s₁ Bd hml hv
  obtain ⟨rfl, hM, hz, hK⟩ := hv
  have hts := atoms_spec (ws := jwsH y cc nL ret hh) Bd.pre
  have htab := vx_table (x := y) Bd (hts _ List.mem_cons_self)
  have hown : s.vm.findClass y.cls = some m.cls := findClass_of_methodNamed Bd.named
  have hj := body ⟨p, l, e, s, m, av.toArray, below, meth, c, D, B, t0⟩ rfl rfl rfl rfl ⟨Bd.exec, Bd.bytes, hml, Bd.returns, hown, fun w hw => hts w (List.mem_cons_of_mem _ hw), Bd.notSynchronized, hl, hK⟩ htab r ho
  have hlv0 := lv_entry av hy.2
  rw [lg_entry_eq]
  exact hj s.heap [] 0 0 _ hM hz va_S.rf (by simp) (by simp) (hlv ▸ hlv0)
/-- a computation whose throws are caught -/
def jcat {α ρ : Type} (o : Option (jR α)) (k : Int32 → α → Option ρ) (kc : Nat → α → Option ρ) : Option ρ :=
  match o with
  | none => none
  | some (0, v, S) => k v S
  | some (t + 1, _, S) => kc (t + 1) S
/-- where a throw of jE t at pc goes -/
def jGo (κ : jCx) (own : String) (pc t h : Nat) : Prop := ∃ (pre : List ExceptionTableEntry) (x : ExceptionTableEntry) (suf : List ExceptionTableEntry), (kC κ).exceptionTable.toList = pre ++ x :: suf ∧
  (∀ z ∈ pre, covers z pc = false ∨ (z.catchType ≠ 0 ∧ ∃ nm : String, Cond.classLink own z.catchType nm ∈ BW ∧ va_Nc (jE t) nm (kS κ))) ∧ covers x pc = true ∧ x.catchType ≠ 0 ∧ Cond.classLink own x.catchType (jE t) ∈ BW ∧ Cond.castable (jE t) (jE t) ∈ tables_1 ∧ x.handlerPc = h
variable {κ : jCx} {own : String} {cc : ByteArray} {nL : Nat} {ret : Option FieldType} {R : Room} {ρ : Type} {Qf : ρ → State → Prop} {M : jMem} {z : Nat → Prop} {bc bs : Nat} {lv : List (Nat × Value)} {pc : Nat} {st : List Value}
theorem j_pc {o : Option ρ} {pc1 : Nat} (h : pc = pc1) (k : J κ nL R Qf o M z bc bs lv pc1 st) : J κ nL R Qf o M z bc bs lv pc st := h ▸ k
/-- invokevirtual on a thing of the memory, in a try -/
theorem j_callVT (X : jX κ own cc nL ret) {y : MethodName} {c1 : ByteArray} {nL1 n idx : Nat} {ret1 : Option FieldType} {R1 : Room} {b ci N : Nat} {T : u_T} {ty : Nat → FieldType} {fs : List Value} {av rest : List Value} {σ1 : Type} {o1 : Option (jR σ1)} {rv1 : Int32 → Option Value} {PM1 : σ1 → jMem → Prop} {z1 : Nat → Prop} {kf : Int32 → σ1 → Option ρ} {kc : Nat → σ1 → Option ρ} (bc1 bs1 : Nat) (hp : Nat → Nat)
    (hm : jCf (kL κ) (kD κ) (kB κ) (kT κ) y c1 nL1 ret1 R1 (.ref b :: av) M z o1 rv1 PM1 z1) (hme : jMe y c1 nL1 ret1 n) (hl : Cond.methodLink own idx y ∈ BW) (hs : Cond.instanceMethod y ∈ BW ∧ Cond.selects y.cls y y ∈ BW) (hcl : jCl ci y.cls T N ty) (d : decode cc pc = .ok (.invokevirtual idx, 3)) (hM : M b = some (.inr (ci, fs))) (hst : st = av.reverse ++ .ref b :: rest) (hn : av.length = n)
    (hR : R1.frames + 1 ≤ R.frames ∧ 8 + (nL1 + 11) + R1.locals ≤ R.locals) (hb : R1.cells + bc1 ≤ bc ∧ R1.slots + bs1 ≤ bs) (hW : (rest.map fun v => v.category).sum ≤ 8) (hz : ∀ a b, a ≤ b → z a → z b)
    (hgo : ∀ t S', kc (t + 1) S' ≠ none → jGo κ own pc (t + 1) (hp t))
    (kh : ∀ t S' M' q, PM1 S' M' → J κ nL R Qf (kc (t + 1) S') M' z bc1 bs1 lv (hp t) [.ref q])
    (kk : ∀ v S' M', PM1 S' M' → J κ nL R Qf (kf v S') M' z1 bc1 bs1 lv (pc + 3) ((rv1 v).toList ++ rest)) :
    J κ nL R Qf (jcat o1 kf kc) M z bc bs lv pc st := fun r ho H locs cells slots ls h1 h2 h3 h4 h5 h6 => by
  obtain ⟨hb1, hb2⟩ := hb
  cases ho1 : o1 with
  | none => rw [ho1] at ho; cases ho
  | some r1 =>
    obtain ⟨tg, v, S1⟩ := r1
    have hrun := vx_runV (rest := rest) (g := F0 (kM κ) pc ls st) (cells := cells) (slots := slots) (locs := locs) (H := H) (p := kP κ) (l := kL κ) (e := kE κ) (below := kF κ) (meth := kMe κ) X.fix (hm _ ho1) ⟨callB_of n X.hts (jgood hme.1) rfl rfl rfl (X.hts _ hme.2.1) (X.hts _ hl) hme.2.2 hR, X.hts _ hs.1, X.hts _ hs.2⟩ ⟨jIn_blind, va_recv X.K (h1.one hM) (q0 := 0) hcl.1 rfl, j_pre X h1 h2 h3⟩ rfl hn h6.1 hst (lv_room hW) d ⟨by omega, by omega⟩
    intro T hT Xs
    rcases hrun T hT Xs with ⟨w, st₀, t, T', L, h0, X', hL, e1, e2, ⟨etg, ew, ⟨M', hpm, hrep⟩, hF⟩, stp⟩ | ⟨q, st₀, t, T', L, E, ce, h0, X', hL, e1, e2, ⟨etg, eE, ⟨M', hpm, hrep⟩, hF⟩, hce, hcv, hcl9, stp⟩
    · dsimp only at etg ew hpm
      subst etg
      cases ew
      rw [ho1] at ho
      have h3' := j_after (σ1 := σ1) (R1 := R1) (cells := cells) (slots := slots) (PM1 := fun _ _ => True) h3 h0 hL hF
      obtain ⟨t2, a1, b1⟩ := kk v S1 M' hpm.1 r ho t.heap (locs ++ L) (cells + R1.cells) (slots + R1.slots) ls hrep hpm.2 h3' (by omega) (by omega) h6 T' e1 X'
      exact ⟨t2, stp t2 a1, b1⟩
    · dsimp only at etg eE hpm
      obtain ⟨tg', rfl⟩ : ∃ k, tg = k + 1 := ⟨tg - 1, by omega⟩
      rw [ho1] at ho
      have ho' : kc (tg' + 1) S1 = some r := ho
      obtain ⟨pre, x, suf, g1, g2, g3, g4, g5, g6, g7⟩ := hgo tg' S1 (by rw [ho']; exact fun h => by cases h)
      have h3' := j_after (σ1 := σ1) (R1 := R1) (cells := cells) (slots := slots) (PM1 := fun _ _ => True) h3 h0 hL hF
      have hz' : z t.heap.size := hz _ _ (by have := hF.1; rw [h0] at this; exact this) h2
      have kk2 := kh tg' S1 M' q hpm r ho' t.heap (locs ++ L) (cells + R1.cells) (slots + R1.slots) ls hrep hz' h3' (by omega) (by omega) h6
      rw [← g7] at kk2
      have hcat := vx_catch (rest := rest) (ls := ls) (H := t.heap) (q := q) (pc := pc) X.ow pre x suf g1 (fun z hz => (g2 z hz).imp id (fun h => ⟨h.1, h.2.imp fun nm hnm => ⟨X.hts _ hnm.1, hnm.2⟩⟩)) g3 g4 (X.hts _ g5) (j_nestA rfl (X.nest g6 rfl)) hce hcv (by rw [← eE]; exact hcl9) kk2
      obtain ⟨t2, a1, b1⟩ := hcat T' e1 X'
      exact ⟨t2, stp.trans a1, b1⟩
theorem v01 : vp_in (0 : Int32) 1 := fun q => q.elim (by decide) (by decide)
theorem zD_mono {D : va_G} : ∀ a b, a ≤ b → zD D a → zD D b := fun a b h h1 => Nat.le_trans h1 h
end CAT
