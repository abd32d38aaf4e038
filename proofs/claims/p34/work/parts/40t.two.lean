section TWO
theorem jE0.up {B B' t0 : Nat} {U : State} (h : jE0 B t0 U) (hB : B ≤ B') : jE0 B' t0 U := ⟨Nat.lt_of_lt_of_le h.1 hB, h.2⟩
theorem jK.up {D : va_G} {B B' t0 : Nat} {U : State} (h : jK D B t0 U) (hB : B ≤ B') (hz : B' ≤ U.heap.size) : jK D B' t0 U := by
  obtain ⟨h1, h2, h3, h4, h5, h6, h7⟩ := h
  have w : ∀ q : Nat, B' ≤ q → B ≤ q := fun q hq => Nat.le_trans hB hq
  refine ⟨⟨h1.1, h1.2.1, h1.2.2.1, h1.2.2.2.1, h1.2.2.2.2.up hB⟩, h2, h3, vx_Zq.narrow h4 w, vx_Zq.narrow h5 w, ⟨?_, h6.2⟩, hz⟩
  obtain ⟨cf, kf, fi, f, a, cell, g1, g2, g3, g4, g5, g6, g7, g8⟩ := h6.1
  exact ⟨cf, kf, fi, f, a, cell, g1, g2, g3, g4, g5, g6, g7, fun h => g8 (w a h)⟩
/-- a contract over a base that lies higher is one over the lower base -/
theorem jMetLift {l : Launch} {D : va_G} {B B' t0 : Nat} {y : MethodName} {ws : List Cond} {R : Room} {av : List Value} {M : jMem} {z : Nat → Prop} {tg : Nat} {v : Option Value} {PM PX : jMem → Nat → Prop} {mc ms : Nat}
    (h : vx_Met l y ws R (va_Pc av (jIn D B' t0 M z)) (jQ D B' tg v PM) (jXC D B' tg PX) mc ms (fun q => B' ≤ q)) (hB : B ≤ B') (hz : ∀ n, z n → B' ≤ n) : vx_Met l y ws R (va_Pc av (jIn D B t0 M z)) (jQ D B tg v PM) (jXC D B tg PX) mc ms (fun q => B ≤ q) := by
  have w : ∀ q : Nat, B' ≤ q → B ≤ q := fun q hq => Nat.le_trans hB hq
  refine MetFree.mono h (fun a s hp => ?_) (fun _ _ _ _ _ h => h) (fun a s o1 t hp hq => ?_)
  · obtain ⟨e, h1, h2, h3⟩ := hp
    exact ⟨e, h1, h2, h3.up hB (hz _ h2)⟩
  · rcases hq with ⟨⟨e1, e2, e3, hF⟩, L, hE, hL⟩ | ⟨q, e1, E, ce, L, ⟨x1, x2, x3, hF⟩, x4, x5, x6, x7, x8, x9⟩
    · exact Or.inl ⟨⟨e1, e2, e3, ⟨hF.1, fun q hq hn => hF.2 q hq (fun h => hn (w q h))⟩⟩, L, hE, fun q hq => w _ (hL q hq)⟩
    · exact Or.inr ⟨q, e1, E, ce, L, ⟨x1, x2, x3, ⟨hF.1, fun q hq hn => hF.2 q hq (fun h => hn (w q h))⟩⟩, x4, x5, x6, x7, x8, fun z hz => w _ (x9 z hz)⟩
theorem jCf.lift {l : Launch} {D : va_G} {B B' t0 : Nat} {y : MethodName} {cc : ByteArray} {nL : Nat} {ret : Option FieldType} {R : Room} {av : List Value} {M : jMem} {z z' : Nat → Prop} {σ : Type} {o : Option (jR σ)} {rv : Int32 → Option Value} {PM : σ → jMem → Prop}
    (h : jCf l D B' t0 y cc nL ret R av M z o rv PM z') (hB : B ≤ B') (hz : ∀ n, z n → B' ≤ n) : jCf l D B t0 y cc nL ret R av M z o rv PM z' := fun r ho => jMetLift (h r ho) hB hz
theorem jCfH.lift {l : Launch} {D : va_G} {B B' t0 : Nat} {y : MethodName} {cc : ByteArray} {nL : Nat} {ret : Option FieldType} {hh : List (Nat × Nat × Nat × Nat)} {R : Room} {av : List Value} {M : jMem} {z z' : Nat → Prop} {σ : Type} {o : Option (jR σ)} {rv : Int32 → Option Value} {PM : σ → jMem → Prop}
    (h : jCfH l D B' t0 y cc nL ret hh R av M z o rv PM z') (hB : B ≤ B') (hz : ∀ n, z n → B' ≤ n) : jCfH l D B t0 y cc nL ret hh R av M z o rv PM z' := fun r ho => jMetLift (h r ho) hB hz
/-- the two things' memories change places -/
theorem swapM {D : va_G} {B : Nat} {S T : jS} {X : jMem} : memG 0 358 D B S (memG 0 358 D (B + 358) T X) = memG 0 358 D (B + 358) T (memG 0 358 D B S X) := by
  funext a
  unfold memG
  by_cases h1 : B + 0 ≤ a ∧ a < B + 358 ∧ kd (a - B) ≠ 0
  · rw [if_pos h1, if_neg (fun h => by omega), if_pos h1]
  · by_cases h2 : B + 358 + 0 ≤ a ∧ a < B + 358 + 358 ∧ kd (a - (B + 358)) ≠ 0
    · rw [if_neg h1, if_pos h2, if_pos h2]
    · rw [if_neg h1, if_neg h2, if_neg h2, if_neg h1]
/-- the log of one thing doesn't see the other -/
theorem LogX.over {D : va_G} {B B2 t0 : Nat} {L : jLg} {X : jMem} {S : jS} (h : LogX D B t0 L X) (h2 : B2 + 358 ≤ lmt D) (h3 : B + 66 < B2 ∨ B2 + 358 ≤ B + 66) : LogX D B t0 L (memG 0 358 D B2 S X) := by
  obtain ⟨hlim, mc, ad, cap, f, h4, h5, h6, h7, h8, h9⟩ := h
  refine ⟨hlim, mc, ad, cap, f, (memG_out (by omega)).trans h4, fun hc => ?_, h6, h7, h8, fun i hi => ?_⟩
  · exact (memG_out (by omega)).trans (h5 hc)
  · obtain ⟨q, q1, q2, q3⟩ := h9 i hi
    exact ⟨q, q1, q2, (memG_out (by omega)).trans q3⟩
/-- what a change of a thing with its log leaves -/
def LPN (D : va_G) (B t0 : Nat) (X9 : jMem) (S9 : jSL) (M9 : jMem) : Prop := ∃ X1, M9 = memG 0 358 D B S9.1 X1 ∧ LogK D B t0 X9 S9.2 X1
theorem jgoodH {y : MethodName} {cc : ByteArray} {nL : Nat} {ret : Option FieldType} {hh : List (Nat × Nat × Nat × Nat)} (h : Cond.codeWith y cc nL ret hh ∈ BW) : GoodIn BW (jwsH y cc nL ret hh) := fun w hw => (List.mem_cons.mp hw).elim (fun e => ⟨e ▸ h, BW_good (e ▸ h)⟩) (fun h2 => ⟨h2, BW_good h2⟩)
/-- what a call of a method with handlers needs of the tables -/
def jMeH (y : MethodName) (c1 : ByteArray) (nL1 : Nat) (ret1 : Option FieldType) (hh : List (Nat × Nat × Nat × Nat)) (n : Nat) : Prop :=
  Cond.codeWith y c1 nL1 ret1 hh ∈ BW ∧ Cond.initialized y.cls ∈ BW ∧ (y.cls ≠ "java/lang/invoke/MethodHandle" ∧ y.cls ≠ "java/lang/invoke/VarHandle" ∧ (parseMethodDescriptor y.desc).map (fun d => d.parameters.length) = some n)
variable {κ : jCx} {own : String} {cc : ByteArray} {nL : Nat} {ret : Option FieldType} {R : Room} {ρ : Type} {Qf : ρ → State → Prop} {o : Option ρ} {M : jMem} {z : Nat → Prop} {bc bs : Nat} {lv : List (Nat × Value)} {pc : Nat} {st : List Value}
theorem j_eqM {M1 : jMem} (h : M = M1) (k : J κ nL R Qf o M1 z bc bs lv pc st) : J κ nL R Qf o M z bc bs lv pc st := h ▸ k
theorem j_letEL {x : Int64} {f : Int64 → Option ρ} (k : ∀ y : Int64, J κ nL R Qf (f y) M z bc bs lv pc (.long y :: st)) : J κ nL R Qf (letE x f) M z bc bs lv pc (.long x :: st) := k x
/-- a loop whose room falls by turns -/
theorem j_loopB {K : Type} {F : K → K} {bot : K} (Pj : Nat → K → Prop) (h0 : ∀ n, Pj n bot) (h : ∀ n rec, Pj n rec → Pj (n + 1) (F rec)) : ∀ n, Pj n (loopK F bot n) := by
  intro n
  induction n with
  | zero => exact h0 0
  | succ n ih => exact h n _ ih
theorem j_lload (X : jX κ own cc nL ret) (q : Nat) {i : Nat} {x : Int64} (hk : lv[q]? = some (i, .long x)) (d : decode cc pc = .ok (.lload i, 2)) (k : J κ nL R Qf o M z bc bs lv (pc + 2) (.long x :: st)) : J κ nL R Qf o M z bc bs lv pc st := fun r ho H locs cells slots ls h1 h2 h3 h4 h5 h6 => lv_lload X.1 X.2.1 d (lv_at h6 q hk) (k r ho H locs cells slots ls h1 h2 h3 h4 h5 h6)
theorem j_lstore (X : jX κ own cc nL ret) (lv1 : List (Nat × Value)) {i : Nat} {x : Int64} (d : decode cc pc = .ok (.lstore i, 2)) (hn : i + 1 < nL) (hl : (i, Value.long x) :: lv.filter (fun q => !(q.1 == i) && (!(q.1 == i + 1) && !(q.1 + 1 == i && q.2.category == 2))) = lv1) (k : J κ nL R Qf o M z bc bs lv1 (pc + 2) st) : J κ nL R Qf o M z bc bs lv pc (.long x :: st) := fun r ho H locs cells slots ls h1 h2 h3 h4 h5 h6 => lv_lstore X.1 X.2.1 d h6 hn hl (fun ls h6 => k r ho H locs cells slots ls h1 h2 h3 h4 h5 h6)
theorem j_ldc2 (X : jX κ own cc nL ret) {i : Nat} {v : Int64} (hw : Cond.constantLong own i v ∈ BW) (d : decode cc pc = .ok (.ldc2_w i, 3)) (k : J κ nL R Qf o M z bc bs lv (pc + 3) (.long v :: st)) : J κ nL R Qf o M z bc bs lv pc st := fun r ho H locs cells slots ls h1 h2 h3 h4 h5 h6 => lv_ldc2 X.1 X.2.1 X.ow (X.hts _ hw) d (k r ho H locs cells slots ls h1 h2 h3 h4 h5 h6)
theorem j_lor (X : jX κ own cc nL ret) {x y : Int64} (d : decode cc pc = .ok (.lor, 1)) (k : J κ nL R Qf o M z bc bs lv (pc + 1) (.long (x ||| y) :: st)) : J κ nL R Qf o M z bc bs lv pc (.long y :: .long x :: st) := fun r ho H locs cells slots ls h1 h2 h3 h4 h5 h6 => lv_lor X.1 X.2.1 d (k r ho H locs cells slots ls h1 h2 h3 h4 h5 h6)
theorem j_land (X : jX κ own cc nL ret) {x y : Int64} (d : decode cc pc = .ok (.land, 1)) (k : J κ nL R Qf o M z bc bs lv (pc + 1) (.long (x &&& y) :: st)) : J κ nL R Qf o M z bc bs lv pc (.long y :: .long x :: st) := fun r ho H locs cells slots ls h1 h2 h3 h4 h5 h6 => lv_land X.1 X.2.1 d (k r ho H locs cells slots ls h1 h2 h3 h4 h5 h6)
theorem j_lshl (X : jX κ own cc nL ret) {x : Int64} {y : Int32} (d : decode cc pc = .ok (.lshl, 1)) (k : J κ nL R Qf o M z bc bs lv (pc + 1) (.long (x <<< (y.toInt64 &&& 63)) :: st)) : J κ nL R Qf o M z bc bs lv pc (.int y :: .long x :: st) := fun r ho H locs cells slots ls h1 h2 h3 h4 h5 h6 => lv_lshl X.1 X.2.1 d rfl (k r ho H locs cells slots ls h1 h2 h3 h4 h5 h6)
theorem j_lshr (X : jX κ own cc nL ret) {x : Int64} {y : Int32} (d : decode cc pc = .ok (.lshr, 1)) (k : J κ nL R Qf o M z bc bs lv (pc + 1) (.long (x >>> (y.toInt64 &&& 63)) :: st)) : J κ nL R Qf o M z bc bs lv pc (.int y :: .long x :: st) := fun r ho H locs cells slots ls h1 h2 h3 h4 h5 h6 => lv_lshr X.1 X.2.1 d rfl (k r ho H locs cells slots ls h1 h2 h3 h4 h5 h6)
/-- invokestatic of a method with handlers, that never throws -/
theorem j_call0SH (X : jX κ own cc nL ret) (bc1 bs1 : Nat) {y : MethodName} {c1 : ByteArray} {nL1 n idx : Nat} {ret1 : Option FieldType} {hh : List (Nat × Nat × Nat × Nat)} {R1 : Room} {av rest : List Value} {σ1 : Type} {o1 : Option (jR σ1)} {rv1 : Int32 → Option Value} {PM1 : σ1 → jMem → Prop} {z1 : Nat → Prop} {kf : Int32 → σ1 → Option ρ}
    (hm : jCfH (kL κ) (kD κ) (kB κ) (kT κ) y c1 nL1 ret1 hh R1 av M z o1 rv1 PM1 z1) (hme : jMeH y c1 nL1 ret1 hh n) (hl : Cond.methodLink own idx y ∈ BW) (hs : Cond.static y ∈ BW) (d : decode cc pc = .ok (.invokestatic idx, 3)) (hst : st = av.reverse ++ rest) (hn : av.length = n)
    (hR : R1.frames + 1 ≤ R.frames ∧ 8 + (nL1 + 11) + R1.locals ≤ R.locals) (hb : R1.cells + bc1 ≤ bc ∧ R1.slots + bs1 ≤ bs) (hW : (rest.map fun v => v.category).sum ≤ 8)
    (kk : ∀ v S' M', PM1 S' M' → J κ nL R Qf (kf v S') M' z1 bc1 bs1 lv (pc + 3) ((rv1 v).toList ++ rest)) :
    J κ nL R Qf (jbin0 o1 kf) M z bc bs lv pc st := by
  refine j_run0 hb (a := av.toArray) (fun v S1 ho1 H locs cells slots ls h1 h2 h3 h4 h5 h6 => ?_) kk
  have hG := jgoodH hme.1
  exact vx_runSW X.fix (jMet0 (hm _ ho1) jX0) ⟨⟨rfl, rfl, hR.1, hR.2, pay_in X.hts hG, List.mem_cons_self⟩, X.hts _ hme.1, X.hts _ hme.2.1, ⟨hme.2.2.1, hme.2.2.2.1⟩, fun sig h => by
      have h2 := hme.2.2.2.2
      rw [h] at h2
      exact (Option.some.inj h2).symm, X.hts _ hl, X.hts _ hs⟩ ⟨jIn_blind, j_pre X h1 h2 h3⟩ rfl hn h6.1 hst (lv_room hW) d ⟨by omega, by omega⟩
end TWO
