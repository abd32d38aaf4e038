section JCA
variable {κ : jCx} {own : String} {cc : ByteArray} {nL : Nat} {ret : Option FieldType} {R : Room} {σ : Type} {PM : σ → jMem → Prop} {rv : Int32 → Option Value} {z' : Nat → Prop} {M : jMem} {z : Nat → Prop} {bc bs : Nat} {lv : List (Nat × Value)} {pc : Nat} {st : List Value}
theorem jX.rt (X : jX κ own cc nL ret) : (kMe κ).sig.returnType = ret := X.2.2.2.1
theorem jX.loc (X : jX κ own cc nL ret) : (kMe κ).locks = false := X.2.2.2.2.2.2.1
theorem jX.tr (X : jX κ own cc nL ret) : (kL κ).stackTraces = false := X.2.2.2.2.2.2.2.1
theorem jX.ml (X : jX κ own cc nL ret) : (kC κ).maxLocals = nL := X.2.2.1
theorem jX.fix (X : jX κ own cc nL ret) : CallFix (kP κ) (kM κ) (kC κ) cc nL (kS κ) (kA κ) BW own := ⟨X.1, X.2.1, X.ml, X.ow, X.hts⟩
/-! the ends -/
theorem j_iret {cc : ByteArray} (X : jX κ own cc nL (some .int)) {x : Int32} {S' : σ} (d : decode cc pc = .ok (.ireturn, 1)) (hp : PM S' M) (hz : ∀ n, z n → z' n) : J κ nL R (jQf κ R rvI PM z') (some (0, x, S')) M z bc bs lv pc [.int x] := fun r ho H locs cells slots ls h1 h2 h3 h4 h5 h6 => by
  cases ho
  exact vx_ret (W.widen (k := R.cells) (n := R.slots) (by omega) (by omega) (W.iret X.1 X.2.1 X.rt (fun t ht hW => ⟨rfl, rfl, ⟨M, ⟨hp, by rw [ht]; exact hz _ h2⟩, by rw [ht]; exact h1⟩, h3.F ht⟩) h3.2.2 d X.loc))
def isb (x : Int32) : Bool := decide (x = 0 ∨ x = 1)
theorem isb_n {x : Int32} (h : isb x = true) : narrow .boolean (.int x) = .int x := by
  rcases of_decide_eq_true h with rfl | rfl <;> rfl
theorem j_zret {cc : ByteArray} (X : jX κ own cc nL (some .boolean)) {x : Int32} {S' : σ} (d : decode cc pc = .ok (.ireturn, 1)) (hp : PM S' M) (hz : ∀ n, z n → z' n) : J κ nL R (jQf κ R rvI PM z') (chk (isb x) (some (0, x, S'))) M z bc bs lv pc [.int x] := j_chk fun hx r ho H locs cells slots ls h1 h2 h3 h4 h5 h6 => by
  cases ho
  exact vx_ret (W.widen (k := R.cells) (n := R.slots) (by omega) (by omega) (W.zret X.1 X.2.1 X.rt (isb_n hx) (fun t ht hW => ⟨rfl, rfl, ⟨M, ⟨hp, by rw [ht]; exact hz _ h2⟩, by rw [ht]; exact h1⟩, h3.F ht⟩) h3.2.2 d X.loc))
theorem j_vret {cc : ByteArray} (X : jX κ own cc nL none) {x : Int32} {S' : σ} (d : decode cc pc = .ok (.return_, 1)) (hp : PM S' M) (hz : ∀ n, z n → z' n) : J κ nL R (jQf κ R rvV PM z') (some (0, x, S')) M z bc bs lv pc [] := fun r ho H locs cells slots ls h1 h2 h3 h4 h5 h6 => by
  cases ho
  exact vx_ret (W.widen (k := R.cells) (n := R.slots) (by omega) (by omega) (W.vret X.1 X.2.1 X.rt (fun t ht hW => ⟨rfl, rfl, ⟨M, ⟨hp, by rw [ht]; exact hz _ h2⟩, by rw [ht]; exact h1⟩, h3.F ht⟩) h3.2.2 d X.loc))
/-- what a throw needs of the tables -/
def jTh (own : String) (tg ik ic : Nat) : Prop :=
  tg ≠ 0 ∧ Bundle.fit (jE tg) = true ∧ Cond.classLink own ik (jE tg) ∈ BW ∧ Cond.initialized (jE tg) ∈ BW ∧ (∀ w ∈ vx_atS own ic (jE tg) ["java/lang/RuntimeException", "java/lang/Exception"], w ∈ BW ∨ (w ∈ tables_1 ∧ jNest w = true)) ∧
  (∀ w ∈ Cond.classLink own ik (jE tg) :: Cond.initialized (jE tg) :: vx_atS own ic (jE tg) ["java/lang/RuntimeException", "java/lang/Exception"], vx_ot w = true)
theorem j_nestA {w : Cond} {A : Array Value} {U : State} (hn : jNest w = true) (h : w.before #[] U = true) : w.before A U = true := by
  cases w with
  | methodLinkNest a i x h9 => exact va_Nw.use rfl h
  | fieldLinkNest a i b n d h9 => exact va_Nw.use rfl h
  | castable C T => exact va_Nw.use rfl h
  | declares x => exact va_Nw.use rfl h
  | arrayOver t => exact h
  | _ => exact nomatch (show false = true from hn)
theorem j_throw (X : jX κ own cc nL ret) {tg ik ic is : Nat} {tx : String} {x : Int32} {S' : σ} (T : jTh own tg ik ic) (hs : Cond.stringRef own is tx ∈ tables_1) (htab : ∀ x ∈ (kC κ).exceptionTable.toList, False)
    (d0 : decode cc pc = .ok (.new ik, 3)) (d3 : decode cc (pc + 3) = .ok (.dup, 1)) (d4 : decode cc (pc + 4) = .ok (.ldc is, 2)) (d6 : decode cc (pc + 6) = .ok (.invokespecial ic, 3)) (d9 : decode cc (pc + 9) = .ok (.athrow, 1))
    (hR : 5 < R.frames ∧ 90 ≤ R.locals) (hb : 1 ≤ bc ∧ 6 ≤ bs) (hp : PM S' M) : J κ nL R (jQf κ R rv PM z') (some (tg, x, S')) M z bc bs lv pc [] := fun r ho H locs cells slots ls h1 h2 h3 h4 h5 h6 => by
  cases ho
  obtain ⟨t0, t1, t2, t3, t4, t5⟩ := T
  obtain ⟨sa, hsa⟩ := X.k.2.2.1 own is tx hs
  exact vx_throwS X.1 X.2.1 X.tr X.ow t1 (by decide +kernel) (X.hts _ t2) (X.hts _ t3) hsa (fun w hw => (t4 w hw).elim (fun h => X.hts _ h) (fun h => j_nestA h.2 (X.k.2.1 w h.1 h.2))) t5 X.k.2.2.2.1 X.k.2.2.2.2.1 h3 (by rw [X.ml]; exact h6.1)
    d0 d3 d4 d6 d9 (fun x hx => (htab x hx).elim) hR.1 (by show 0 + (13 * 3 + 43) ≤ R.locals; omega) (by omega) (by omega) X.loc
    (fun t ht hz hk => ⟨t0, rfl, ⟨M, hp, h1.kept hk⟩, Nat.le_trans h3.1 hz, fun q hq hq2 => (hk q (Nat.lt_of_lt_of_le hq h3.1)).trans (h3.2.1 q hq hq2)⟩) h3.2.2 (by omega) (by omega)
theorem j_throwW (X : jX κ own cc nL ret) {tg ik ic is : Nat} {tx : String} {x : Int32} {S' : σ} (T : jTh own tg ik ic) (hs : Cond.stringRef own is tx ∈ tables_1) (htab : ∀ x ∈ (kC κ).exceptionTable.toList, False)
    (d0 : decode cc pc = .ok (.new ik, 3)) (d3 : decode cc (pc + 3) = .ok (.dup, 1)) (d4 : decode cc (pc + 4) = .ok (.ldc_w is, 3)) (d6 : decode cc (pc + 7) = .ok (.invokespecial ic, 3)) (d9 : decode cc (pc + 10) = .ok (.athrow, 1))
    (hR : 5 < R.frames ∧ 90 ≤ R.locals) (hb : 1 ≤ bc ∧ 6 ≤ bs) (hp : PM S' M) : J κ nL R (jQf κ R rv PM z') (some (tg, x, S')) M z bc bs lv pc [] := fun r ho H locs cells slots ls h1 h2 h3 h4 h5 h6 => by
  cases ho
  obtain ⟨t0, t1, t2, t3, t4, t5⟩ := T
  obtain ⟨sa, hsa⟩ := X.k.2.2.1 own is tx hs
  exact vx_throwSW X.1 X.2.1 X.tr X.ow t1 (by decide +kernel) (X.hts _ t2) (X.hts _ t3) hsa (fun w hw => (t4 w hw).elim (fun h => X.hts _ h) (fun h => j_nestA h.2 (X.k.2.1 w h.1 h.2))) t5 X.k.2.2.2.1 X.k.2.2.2.2.1 h3 (by rw [X.ml]; exact h6.1)
    d0 d3 d4 d6 d9 (fun x hx => (htab x hx).elim) hR.1 (by show 0 + (13 * 3 + 43) ≤ R.locals; omega) (by omega) (by omega) X.loc
    (fun t ht hz hk => ⟨t0, rfl, ⟨M, hp, h1.kept hk⟩, Nat.le_trans h3.1 hz, fun q hq hq2 => (hk q (Nat.lt_of_lt_of_le hq h3.1)).trans (h3.2.1 q hq hq2)⟩) h3.2.2 (by omega) (by omega)
/-! the calls -/
/-- a computation behind a call's -/
def jbind {α β : Type} (o : Option (jR α)) (k : Int32 → α → Option (jR β)) (kt : Nat → α → Option (jR β)) : Option (jR β) :=
  match o with
  | none => none
  | some (0, v, S) => k v S
  | some (t + 1, _, S) => kt (t + 1) S
theorem jIn_blind {av : List Value} {D : va_G} {B t0 : Nat} {M : jMem} {z : Nat → Prop} : FrameBlind (va_Pc av (jIn D B t0 M z)) := fun _ U _ _ h => ⟨h.1, h.2.1, h.2.2.1, h.2.2.2.moved (State.WarmedH.refl U) (Nat.le_refl _) (fun _ _ _ => rfl)⟩
theorem j_pre {av : List Value} (X : jX κ own cc nL ret) {H : Heap} {locs : List Loc} (h1 : jRep (kD κ) M H) (h2 : z H.size) (h3 : va_S (fun q => kB κ ≤ q) (kS κ).heap H locs) : ∀ U : State, U.heap = H → (kS κ).WarmedH U.vm → va_Pc av (jIn (kD κ) (kB κ) (kT κ) M z) av.toArray U := fun U hU hW =>
  ⟨rfl, by rw [hU]; exact h1, by rw [hU]; exact h2, X.k.moved hW (by rw [hU]; exact h3.1) (fun a ha hb => by rw [hU]; exact h3.2.1 a ha hb)⟩
/-- what a call needs of the tables: the method's code, and the link -/
def jMe (y : MethodName) (c1 : ByteArray) (nL1 : Nat) (ret1 : Option FieldType) (n : Nat) : Prop :=
  Cond.code y c1 nL1 ret1 ∈ BW ∧ Cond.initialized y.cls ∈ BW ∧ (y.cls ≠ "java/lang/invoke/MethodHandle" ∧ y.cls ≠ "java/lang/invoke/VarHandle" ∧ (parseMethodDescriptor y.desc).map (fun d => d.parameters.length) = some n)
theorem j_after {H : Heap} {locs L : List Loc} {cells slots : Nat} {R1 : Room} {st₀ t : State} {σ1 : Type} {PM1 : jMem → Nat → Prop} (h3 : va_S (fun q => kB κ ≤ q) (kS κ).heap H locs) (h0 : st₀.heap = H) (hL : ∀ q ∈ L, kB κ ≤ q.base) (hF : va_F (fun q => kB κ ≤ q) st₀ t) : va_S (fun q => kB κ ≤ q) (kS κ).heap t.heap (locs ++ L) := by
  obtain ⟨f1, f2⟩ := hF
  rw [h0] at f1 f2
  refine ⟨Nat.le_trans h3.1 f1, fun q q1 q2 => (f2 q (Nat.lt_of_lt_of_le q1 h3.1) q2).trans (h3.2.1 q q1 q2), fun q hq => ?_⟩
  rcases List.mem_append.mp hq with h | h
  · exact h3.2.2 q h
  · exact hL q h
/-- the two ways behind a call that may throw -/
theorem j_run {rest : List Value} {σ1 : Type} {o1 : Option (jR σ1)} {rv1 : Int32 → Option Value} {PM1 : σ1 → jMem → Prop} {z1 : Nat → Prop} {kf : Int32 → σ1 → Option (jR σ)} {kt : Nat → σ1 → Option (jR σ)} {bc1 bs1 : Nat} {R1 : Room} {a : Array Value} (X : jX κ own cc nL ret) (htab : ∀ x ∈ (kC κ).exceptionTable.toList, False) (hb : R1.cells + bc1 ≤ bc ∧ R1.slots + bs1 ≤ bs)
    (hrun : ∀ r1, o1 = some r1 → ∀ (H : Heap) (locs : List Loc) (cells slots : Nat) (ls : Array Slot), jRep (kD κ) M H → z H.size → va_S (fun q => kB κ ≤ q) (kS κ).heap H locs → cells + bc ≤ R.cells → slots + bs ≤ R.slots → lv_has ls nL lv →
      vx_Run (kP κ) (kL κ) (kE κ) R (kS κ) (kM κ) (kA κ) (kF κ) (kMe κ) (kC κ) H locs cells slots R1.cells R1.slots (F0 (kM κ) pc ls st) rest (jQ (kD κ) (kB κ) r1.1 (rv1 r1.2.1) (fun M n => PM1 r1.2.2 M ∧ z1 n) a) (jXC (kD κ) (kB κ) r1.1 (fun M _ => PM1 r1.2.2 M)) (fun q => kB κ ≤ q))
    (kx : ∀ t S' M' r, PM1 S' M' → kt (t + 1) S' = some r → r.1 = t + 1 ∧ PM r.2.2 M')
    (kk : ∀ v S' M', PM1 S' M' → J κ nL R (jQf κ R rv PM z') (kf v S') M' z1 bc1 bs1 lv (pc + 3) ((rv1 v).toList ++ rest)) :
    J κ nL R (jQf κ R rv PM z') (jbind o1 kf kt) M z bc bs lv pc st := fun r ho H locs cells slots ls h1 h2 h3 h4 h5 h6 => by
  obtain ⟨hb1, hb2⟩ := hb
  cases ho1 : o1 with
  | none => rw [ho1] at ho; cases ho
  | some r1 =>
    obtain ⟨tg, v, S1⟩ := r1
    intro T hT Xs
    rcases hrun _ ho1 H locs cells slots ls h1 h2 h3 h4 h5 h6 T hT Xs with ⟨w, st₀, t, T', L, h0, X', hL, e1, e2, ⟨etg, ew, ⟨M', hpm, hrep⟩, hF⟩, stp⟩ | ⟨q, st₀, t, T', L, E, ce, h0, X', hL, e1, e2, ⟨etg, eE, ⟨M', hpm, hrep⟩, hF⟩, hce, hcv, hcl, stp⟩
    · dsimp only at etg ew hpm
      subst etg
      cases ew
      rw [ho1] at ho
      have h3' := j_after (σ1 := σ1) (R1 := R1) (cells := cells) (slots := slots) (PM1 := fun _ _ => True) h3 h0 hL hF
      obtain ⟨t2, a1, b1⟩ := kk v S1 M' hpm.1 r ho t.heap (locs ++ L) (cells + R1.cells) (slots + R1.slots) ls hrep hpm.2 h3' (by omega) (by omega) h6 T' e1 X'
      exact ⟨t2, stp t2 a1, b1⟩
    · dsimp only at etg eE hpm
      obtain ⟨tg', rfl⟩ : ∃ k, tg = k + 1 := ⟨tg - 1, by omega⟩
      rw [ho1] at ho
      obtain ⟨k1, k2⟩ := kx tg' S1 M' r hpm ho
      have h3' := j_after (σ1 := σ1) (R1 := R1) (cells := cells) (slots := slots) (PM1 := fun _ _ => True) h3 h0 hL hF
      have hout := vx_out (Qc := jQ (kD κ) (kB κ) r.1 (rv r.2.1) (fun M n => PM r.2.2 M ∧ z' n)) (XC := jXC (kD κ) (kB κ) r.1 (fun M _ => PM r.2.2 M)) (free := fun q => kB κ ≤ q) (mc := R.cells) (ms := R.slots) (m := kM κ) (ls := ls) (pc := pc) (rest := rest) (q := q) (p := kP κ) (l := kL κ) (e := kE κ) (R := R) (below := kF κ) (args := kA κ) (locs := locs ++ L) (cells := cells + R1.cells) (slots := slots + R1.slots) (fun x hx => (htab x hx).elim) X.loc (H := T'.heap) (by rw [e1]; exact hce) hcv hcl
        (fun u hu hvm => ⟨by rw [k1]; exact Nat.succ_ne_zero _, by rw [k1]; exact eE, ⟨M', k2, by rw [hu, e1]; exact hrep⟩, (e1 ▸ h3').F hu⟩) (e1 ▸ h3').2.2 (by omega) (by omega)
      obtain ⟨t2, a1, b1⟩ := hout T' rfl X'
      exact ⟨t2, stp.trans a1, b1⟩
/-- invokestatic, its own class -/
theorem j_callS (X : jX κ own cc nL ret) {y : MethodName} {c1 : ByteArray} {nL1 n idx : Nat} {ret1 : Option FieldType} {R1 : Room} {av rest : List Value} {σ1 : Type} {o1 : Option (jR σ1)} {rv1 : Int32 → Option Value} {PM1 : σ1 → jMem → Prop} {z1 : Nat → Prop} {kf : Int32 → σ1 → Option (jR σ)} {kt : Nat → σ1 → Option (jR σ)} (bc1 bs1 : Nat)
    (hm : jCf (kL κ) (kD κ) (kB κ) (kT κ) y c1 nL1 ret1 R1 av M z o1 rv1 PM1 z1) (hme : jMe y c1 nL1 ret1 n) (hl : Cond.methodLink own idx y ∈ BW) (hs : Cond.static y ∈ BW) (htab : ∀ x ∈ (kC κ).exceptionTable.toList, False) (d : decode cc pc = .ok (.invokestatic idx, 3)) (hst : st = av.reverse ++ rest) (hn : av.length = n)
    (hR : R1.frames + 1 ≤ R.frames ∧ 8 + (nL1 + 11) + R1.locals ≤ R.locals) (hb : R1.cells + bc1 ≤ bc ∧ R1.slots + bs1 ≤ bs) (hW : (rest.map fun v => v.category).sum ≤ 8)
    (kx : ∀ t S' M' r, PM1 S' M' → kt (t + 1) S' = some r → r.1 = t + 1 ∧ PM r.2.2 M')
    (kk : ∀ v S' M', PM1 S' M' → J κ nL R (jQf κ R rv PM z') (kf v S') M' z1 bc1 bs1 lv (pc + 3) ((rv1 v).toList ++ rest)) :
    J κ nL R (jQf κ R rv PM z') (jbind o1 kf kt) M z bc bs lv pc st := by
  refine j_run X htab hb (a := av.toArray) (fun r1 ho1 H locs cells slots ls h1 h2 h3 h4 h5 h6 => ?_) kx kk
  exact vx_runS X.fix (hm r1 ho1) ⟨callB_of n X.hts (jgood hme.1) rfl rfl rfl (X.hts _ hme.2.1) (X.hts _ hl) hme.2.2 hR, X.hts _ hs⟩ ⟨jIn_blind, j_pre X h1 h2 h3⟩ rfl hn h6.1 hst (lv_room hW) d ⟨by omega, by omega⟩
/-- invokevirtual, on a thing of the memory -/
theorem j_callV (X : jX κ own cc nL ret) {y : MethodName} {c1 : ByteArray} {nL1 n idx : Nat} {ret1 : Option FieldType} {R1 : Room} {b ci N : Nat} {T : u_T} {ty : Nat → FieldType} {fs : List Value} {av rest : List Value} {σ1 : Type} {o1 : Option (jR σ1)} {rv1 : Int32 → Option Value} {PM1 : σ1 → jMem → Prop} {z1 : Nat → Prop} {kf : Int32 → σ1 → Option (jR σ)} {kt : Nat → σ1 → Option (jR σ)} (bc1 bs1 : Nat)
    (hm : jCf (kL κ) (kD κ) (kB κ) (kT κ) y c1 nL1 ret1 R1 (.ref b :: av) M z o1 rv1 PM1 z1) (hme : jMe y c1 nL1 ret1 n) (hl : Cond.methodLink own idx y ∈ BW) (hs : Cond.instanceMethod y ∈ BW ∧ Cond.selects y.cls y y ∈ BW) (hcl : jCl ci y.cls T N ty) (htab : ∀ x ∈ (kC κ).exceptionTable.toList, False) (d : decode cc pc = .ok (.invokevirtual idx, 3)) (hM : M b = some (.inr (ci, fs))) (hst : st = av.reverse ++ .ref b :: rest) (hn : av.length = n)
    (hR : R1.frames + 1 ≤ R.frames ∧ 8 + (nL1 + 11) + R1.locals ≤ R.locals) (hb : R1.cells + bc1 ≤ bc ∧ R1.slots + bs1 ≤ bs) (hW : (rest.map fun v => v.category).sum ≤ 8)
    (kx : ∀ t S' M' r, PM1 S' M' → kt (t + 1) S' = some r → r.1 = t + 1 ∧ PM r.2.2 M')
    (kk : ∀ v S' M', PM1 S' M' → J κ nL R (jQf κ R rv PM z') (kf v S') M' z1 bc1 bs1 lv (pc + 3) ((rv1 v).toList ++ rest)) :
    J κ nL R (jQf κ R rv PM z') (jbind o1 kf kt) M z bc bs lv pc st := by
  refine j_run X htab hb (a := (Value.ref b :: av).toArray) (fun r1 ho1 H locs cells slots ls h1 h2 h3 h4 h5 h6 => ?_) kx kk
  exact vx_runV X.fix (hm r1 ho1) ⟨callB_of n X.hts (jgood hme.1) rfl rfl rfl (X.hts _ hme.2.1) (X.hts _ hl) hme.2.2 hR, X.hts _ hs.1, X.hts _ hs.2⟩ ⟨jIn_blind, va_recv X.K (h1.one hM) (q0 := 0) hcl.1 rfl, j_pre X h1 h2 h3⟩ rfl hn h6.1 hst (lv_room hW) d ⟨by omega, by omega⟩
end JCA
