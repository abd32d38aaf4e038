section JRU
/-- a walk's surroundings: program, launch, environment, state at the start, method, arguments, frames below, method, code; class numbers, base, the empty list's array -/
abbrev jCx : Type := Program × Launch × Env × State × MethodId × Array Value × List Frame × Method × Code × va_G × Nat × Nat
abbrev kP (κ : jCx) : Program := κ.1
abbrev kL (κ : jCx) : Launch := κ.2.1
abbrev kE (κ : jCx) : Env := κ.2.2.1
abbrev kS (κ : jCx) : State := κ.2.2.2.1
abbrev kM (κ : jCx) : MethodId := κ.2.2.2.2.1
abbrev kA (κ : jCx) : Array Value := κ.2.2.2.2.2.1
abbrev kF (κ : jCx) : List Frame := κ.2.2.2.2.2.2.1
abbrev kMe (κ : jCx) : Method := κ.2.2.2.2.2.2.2.1
abbrev kC (κ : jCx) : Code := κ.2.2.2.2.2.2.2.2.1
abbrev kD (κ : jCx) : va_G := κ.2.2.2.2.2.2.2.2.2.1
abbrev kB (κ : jCx) : Nat := κ.2.2.2.2.2.2.2.2.2.2.1
abbrev kT (κ : jCx) : Nat := κ.2.2.2.2.2.2.2.2.2.2.2
def jX (κ : jCx) (own : String) (cc : ByteArray) (nL : Nat) (ret : Option FieldType) : Prop :=
  (kP κ).tables.exec = Jvm.exec ∧ (kC κ).code = cc ∧ (kC κ).maxLocals = nL ∧ (kMe κ).sig.returnType = ret ∧ (kS κ).vm.findClass own = some (kM κ).cls ∧ (∀ w ∈ BW, w.before (kA κ) (kS κ) = true) ∧ (kMe κ).locks = false ∧ (kL κ).stackTraces = false ∧ jK (kD κ) (kB κ) (kT κ) (kS κ)
/-- the judgement: where the computation o answers r, the machine goes from here to what r owes -/
def J (κ : jCx) (nL : Nat) (R : Room) {ρ : Type} (Qf : ρ → State → Prop) (o : Option ρ) (M : jMem) (z : Nat → Prop) (bc bs : Nat) (lv : List (Nat × Value)) (pc : Nat) (st : List Value) : Prop :=
  ∀ r, o = some r → ∀ (H : Heap) (locs : List Loc) (cells slots : Nat) (ls : Array Slot), jRep (kD κ) M H → z H.size → va_S (fun q => kB κ ≤ q) (kS κ).heap H locs → cells + bc ≤ R.cells → slots + bs ≤ R.slots → lv_has ls nL lv →
    W (kP κ) (kL κ) (kE κ) R (kS κ) (kM κ) (kA κ) (kF κ) (kMe κ) (kC κ) H locs cells slots (Qf r) (F0 (kM κ) pc ls st)
def jIn (D : va_G) (B t0 : Nat) (M : jMem) (z : Nat → Prop) : State → Prop := fun U => jRep D M U.heap ∧ z U.heap.size ∧ jK D B t0 U
def jQ (D : va_G) (B : Nat) (tg : Nat) (v : Option Value) (PM : jMem → Nat → Prop) : Array Value → State → Outcome → State → Prop := fun _ st o t =>
  tg = 0 ∧ o = .returned v ∧ (∃ M', PM M' t.heap.size ∧ jRep D M' t.heap) ∧ va_F (fun q => B ≤ q) st t
def jE : Nat → String
  | 1 => "java/lang/IllegalArgumentException"
  | 2 => "java/lang/IllegalStateException"
  | _ => "java/lang/IndexOutOfBoundsException"
def jXC (D : va_G) (B : Nat) (tg : Nat) (PM : jMem → Nat → Prop) : String → State → State → Prop := fun E st t =>
  tg ≠ 0 ∧ E = jE tg ∧ (∃ M', PM M' t.heap.size ∧ jRep D M' t.heap) ∧ va_F (fun q => B ≤ q) st t
/-- a method's contract: from the memory M, the size by z, these arguments: the answer v (tg = 0) or the throw of jE tg, the memory by PM -/
def jC (l : Launch) (D : va_G) (B t0 : Nat) (y : MethodName) (cc : ByteArray) (nL : Nat) (ret : Option FieldType) (R : Room) (av : List Value) (M : jMem) (z : Nat → Prop) (tg : Nat) (v : Option Value) (PM : jMem → Nat → Prop) : Prop :=
  vx_Met l y (jws y cc nL ret) R (va_Pc av (jIn D B t0 M z)) (jQ D B tg v PM) (jXC D B tg PM) R.cells R.slots (fun q => B ≤ q)
/-- what a computation's answers are: 0 and the value, or the number of an exception; the state behind -/
abbrev jR (σ : Type) : Type := Nat × Int32 × σ
def jQf (κ : jCx) (R : Room) {σ : Type} (rv : Int32 → Option Value) (PM : σ → jMem → Prop) (z : Nat → Prop) : jR σ → State → Prop := fun r =>
  vx_MQ (kF κ) (jQ (kD κ) (kB κ) r.1 (rv r.2.1) (fun M n => PM r.2.2 M ∧ z n)) (jXC (kD κ) (kB κ) r.1 (fun M _ => PM r.2.2 M)) (kA κ) (kS κ) R.cells R.slots (fun q => kB κ ≤ q)
/-- the contract of a computation -/
def jCf (l : Launch) (D : va_G) (B t0 : Nat) (y : MethodName) (cc : ByteArray) (nL : Nat) (ret : Option FieldType) (R : Room) (av : List Value) (M : jMem) (z : Nat → Prop) {σ : Type} (o : Option (jR σ)) (rv : Int32 → Option Value) (PM : σ → jMem → Prop) (z' : Nat → Prop) : Prop :=
  ∀ r, o = some r → vx_Met l y (jws y cc nL ret) R (va_Pc av (jIn D B t0 M z)) (jQ D B r.1 (rv r.2.1) (fun M n => PM r.2.2 M ∧ z' n)) (jXC D B r.1 (fun M _ => PM r.2.2 M)) R.cells R.slots (fun q => B ≤ q)
def rvI : Int32 → Option Value := fun v => some (.int v)
def rvV : Int32 → Option Value := fun _ => none
theorem jC_of {l : Launch} {D : va_G} {B t0 : Nat} {y : MethodName} {cc : ByteArray} {nL : Nat} {ret : Option FieldType} {R : Room} {av : List Value} {M : jMem} {z z' : Nat → Prop} {σ : Type} {o : Option (jR σ)} {rv : Int32 → Option Value} {PM : σ → jMem → Prop} (hl : l.stackTraces = false) (hcode : Cond.code y cc nL ret ∈ BW) (lv0 : List (Nat × Value))
    (hy : plainName y.cls = true ∧ (lg_sl av).length ≤ nL) (hlv : lv_args 0 av = lv0)
    (body : ∀ κ : jCx, kL κ = l → kD κ = D → kB κ = B → kT κ = t0 → jX κ y.cls cc nL ret → (∀ x ∈ (kC κ).exceptionTable.toList, False) → (y.name = "<init>" → (kMe κ).name = "<init>") → J κ nL R (jQf κ R rv PM z') o M z R.cells R.slots lv0 0 []) :
    jCf l D B t0 y cc nL ret R av M z o rv PM z' := by
  intro r ho
  refine vx_ofW (ws' := BW) (cc := cc) (maxL := nL) (ret := ret) hy.1 rfl ?_
  intro p e s m args below meth c s₁ Bd hml htab hv
  obtain ⟨rfl, hM, hz, hK⟩ := hv
  have hts := atoms_spec (ws := jws y cc nL ret) Bd.pre
  have hown : s.vm.findClass y.cls = some m.cls := findClass_of_methodNamed Bd.named
  have hnm : meth.name = y.name := (name_of_methodNamed Bd.named Bd.method).1
  have hj := body ⟨p, l, e, s, m, av.toArray, below, meth, c, D, B, t0⟩ rfl rfl rfl rfl ⟨Bd.exec, Bd.bytes, hml, Bd.returns, hown, fun w hw => hts w (List.mem_cons_of_mem _ hw), Bd.notSynchronized, hl, hK⟩ htab (fun e9 => hnm.trans e9) r ho
  have hlv0 := lv_entry av hy.2
  rw [lg_entry_eq]
  exact hj s.heap [] 0 0 _ hM hz va_S.rf (by simp) (by simp) (hlv ▸ hlv0)
end JRU
