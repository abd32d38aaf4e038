section LWR2
/-- at the head of the law's loop: the model's cells, the log, the out array, the script -/
def GI (s : State) (D : va_G) (B t0 b0 N : Nat) (xs : Nat → Int32) (SM : jS) (L : jLg) (w : Nat → Int64) (X : jMem) : Prop :=
  X = memG 358 387 D B SM X ∧ LogX D B t0 L X ∧ X (B + 387) = some (outC D w) ∧ b0 < B ∧ (b0 < s.heap.size ∧ va_X b0 N xs s s.heap)
theorem memG_comm {D : va_G} {B : Nat} {S SM : jS} {X : jMem} : memG 0 358 D B S (memG 358 387 D B SM X) = memG 358 387 D B SM (memG 0 358 D B S X) := by
  funext a
  unfold memG
  by_cases h1 : B + 0 ≤ a ∧ a < B + 358 ∧ kd (a - B) ≠ 0
  · rw [if_pos h1, if_neg (fun h => by omega), if_pos h1]
  · by_cases h2 : B + 358 ≤ a ∧ a < B + 387 ∧ kd (a - B) ≠ 0
    · rw [if_neg h1, if_pos h2, if_pos h2]
    · rw [if_neg h1, if_neg h2, if_neg h2, if_neg h1]
theorem memG_twice {lo hi : Nat} {D : va_G} {B : Nat} {S S1 : jS} {X : jMem} : memG lo hi D B S (memG lo hi D B S1 X) = memG lo hi D B S X := by
  funext a
  unfold memG
  by_cases h1 : B + lo ≤ a ∧ a < B + hi ∧ kd (a - B) ≠ 0
  · rw [if_pos h1, if_pos h1]
  · rw [if_neg h1, if_neg h1, if_neg h1]
theorem GI.step {s : State} {D : va_G} {B t0 b0 N : Nat} {xs : Nat → Int32} {SM : jS} {L L1 : jLg} {w w1 : Nat → Int64} {X X1 : jMem} (h : GI s D B t0 b0 N xs SM L w X) (h1 : LogX D B t0 L1 X1) (h2 : X1 (B + 387) = some (outC D w1)) (h3 : ∀ q : Nat, q < B + 387 → q ≠ B + 66 → X1 q = X q) : GI s D B t0 b0 N xs SM L1 w1 X1 := by
  obtain ⟨g1, g2, g3, g4, g5⟩ := h
  refine ⟨?_, h1, h2, g4, g5⟩
  funext a
  by_cases hc : B + 358 ≤ a ∧ a < B + 387 ∧ kd (a - B) ≠ 0
  · rw [h3 a (by omega) (by omega), g1]
    unfold memG
    rw [if_pos hc, if_pos hc]
  · unfold memG
    rw [if_neg hc]
theorem GI.model {s : State} {D : va_G} {B t0 b0 N : Nat} {xs : Nat → Int32} {SM SM1 : jS} {L : jLg} {w : Nat → Int64} {X : jMem} (h : GI s D B t0 b0 N xs SM L w X) : GI s D B t0 b0 N xs SM1 L w (memG 358 387 D B SM1 X) := by
  obtain ⟨-, ⟨mc, ad, cap, f, h1, h2, h3, h4, h5, h6⟩, g3, g4, g5⟩ := h
  have hx : ∀ a : Nat, a < B + 358 ∨ B + 387 ≤ a → memG 358 387 D B SM1 X a = X a := fun a ha => memG_out ha
  refine ⟨memG_twice.symm, ⟨mc, ad, cap, f, (hx _ (by omega)).trans h1, fun hc => (hx _ (by omega)).trans (h2 hc), h3, h4, h5, fun i hi => (h6 i hi).imp fun q hq => ⟨hq.1, hq.2.1, (hx _ (by omega)).trans hq.2.2⟩⟩, (hx _ (by omega)).trans g3, g4, g5⟩
theorem jgoodH {y : MethodName} {cc : ByteArray} {nL : Nat} {ret : Option FieldType} {hh : List (Nat × Nat × Nat × Nat)} (h : Cond.codeWith y cc nL ret hh ∈ BW) : GoodIn BW (jwsH y cc nL ret hh) := fun w hw => (List.mem_cons.mp hw).elim (fun e => ⟨e ▸ h, BW_good (e ▸ h)⟩) (fun h2 => ⟨h2, BW_good h2⟩)
/-- what a call of a method with handlers needs of the tables -/
def jMeH (y : MethodName) (c1 : ByteArray) (nL1 : Nat) (ret1 : Option FieldType) (hh : List (Nat × Nat × Nat × Nat)) (n : Nat) : Prop :=
  Cond.codeWith y c1 nL1 ret1 hh ∈ BW ∧ Cond.initialized y.cls ∈ BW ∧ (y.cls ≠ "java/lang/invoke/MethodHandle" ∧ y.cls ≠ "java/lang/invoke/VarHandle" ∧ (parseMethodDescriptor y.desc).map (fun d => d.parameters.length) = some n)
variable {κ : jCx} {own : String} {cc : ByteArray} {nL : Nat} {ret : Option FieldType} {R : Room} {ρ : Type} {Qf : ρ → State → Prop} {o : Option ρ} {z : Nat → Prop} {bc bs : Nat} {lv : List (Nat × Value)} {pc : Nat} {st rest : List Value} {S SM : jS} {L : jLg} {w : Nat → Int64} {Xm : jMem} {b0 N : Nat} {xs : Nat → Int32}
/-- an int of the script -/
theorem r_scr (X : jX κ own cc nL ret) {i : Int32} (hI : GI (kS κ) (kD κ) (kB κ) (kT κ) b0 N xs SM L w Xm) (d : decode cc pc = .ok (.iaload, 1)) (kk : J κ nL R Qf o (memG 0 358 (kD κ) (kB κ) S Xm) z bc bs lv (pc + 1) (.int (xs i.toNatClampNeg) :: st)) :
    J κ nL R Qf (chk (inb i N) o) (memG 0 358 (kD κ) (kB κ) S Xm) z bc bs lv pc (.int i :: .ref b0 :: st) := j_chk fun h r ho H locs cells slots ls h1 h2 h3 h4 h5 h6 => va_sld X.1 X.2.1 hI.2.2.2.2.2 hI.2.2.2.2.1 (Nat.not_le.mpr hI.2.2.2.1) h3 (inb_in h) d (kk r ho H locs cells slots ls h1 h2 h3 h4 h5 h6)
theorem r_len (X : jX κ own cc nL ret) (hI : GI (kS κ) (kD κ) (kB κ) (kT κ) b0 N xs SM L w Xm) (d : decode cc pc = .ok (.arraylength, 1)) (kk : J κ nL R Qf o (memG 0 358 (kD κ) (kB κ) S Xm) z bc bs lv (pc + 1) (.int (Int32.ofNat N) :: st)) :
    J κ nL R Qf o (memG 0 358 (kD κ) (kB κ) S Xm) z bc bs lv pc (.ref b0 :: st) := fun r ho H locs cells slots ls h1 h2 h3 h4 h5 h6 => va_slen X.1 X.2.1 hI.2.2.2.2.2 hI.2.2.2.2.1 (Nat.not_le.mpr hI.2.2.2.1) h3 d (kk r ho H locs cells slots ls h1 h2 h3 h4 h5 h6)
/-- the out array's one long -/
theorem r_out (X : jX κ own cc nL ret) (hI : GI (kS κ) (kD κ) (kB κ) (kT κ) b0 N xs SM L w Xm) (d : decode cc pc = .ok (.laload, 1)) (kk : J κ nL R Qf o (memG 0 358 (kD κ) (kB κ) S Xm) z bc bs lv (pc + 1) (.long (w 0) :: st)) :
    J κ nL R Qf o (memG 0 358 (kD κ) (kB κ) S Xm) z bc bs lv pc (.int 0 :: .ref (kB κ + 387) :: st) := j_lald X v01 d ((memG_out (Or.inr (by omega))).trans hI.2.2.1) kk
/-- a call of one of the law's own methods -/
theorem r_callL (X : jX κ own cc nL ret) {y : MethodName} {c1 : ByteArray} {nL1 n idx : Nat} {hh : List (Nat × Nat × Nat × Nat)} {R1 : Room} {av : List Value} {o1 : Option (jR jLS)} {kf : Int32 → jLS → Option ρ} (bc1 bs1 : Nat) (hI : GI (kS κ) (kD κ) (kB κ) (kT κ) b0 N xs SM L w Xm)
    (hm : jCfH (kL κ) (kD κ) (kB κ) (kT κ) y c1 nL1 (some .int) hh R1 av (memG 0 358 (kD κ) (kB κ) S Xm) (zD (kB κ)) o1 rvI (LPM (kD κ) (kB κ) (kT κ) Xm) (zD (kB κ))) (hme : jMeH y c1 nL1 (some .int) hh n) (hl : Cond.methodLink own idx y ∈ BW) (hs : Cond.static y ∈ BW) (d : decode cc pc = .ok (.invokestatic idx, 3)) (hst : st = av.reverse ++ rest) (hn : av.length = n)
    (hR : R1.frames + 1 ≤ R.frames ∧ 8 + (nL1 + 11) + R1.locals ≤ R.locals) (hb : R1.cells + bc1 ≤ bc ∧ R1.slots + bs1 ≤ bs) (hW : (rest.map fun v => v.category).sum ≤ 8)
    (kk : ∀ (v : Int32) (S1 : jLS) (X1 : jMem), GI (kS κ) (kD κ) (kB κ) (kT κ) b0 N xs SM S1.2.1 S1.2.2 X1 → J κ nL R Qf (kf v S1) (memG 0 358 (kD κ) (kB κ) S1.1 X1) (zD (kB κ)) bc1 bs1 lv (pc + 3) (.int v :: rest)) :
    J κ nL R Qf (jbin0 o1 kf) (memG 0 358 (kD κ) (kB κ) S Xm) (zD (kB κ)) bc bs lv pc st := by
  refine j_run0 (rv1 := rvI) (PM1 := LPM (kD κ) (kB κ) (kT κ) Xm) (z1 := zD (kB κ)) (R1 := R1) (rest := rest) hb (a := av.toArray) (fun v S1 ho1 H locs cells slots ls h1 h2 h3 h4 h5 h6 => ?_) (fun v S1 M1 hM1 => ?_)
  · have hG := jgoodH hme.1
    exact vx_runSW X.fix (jMet0 (hm _ ho1) jX0) ⟨⟨rfl, rfl, hR.1, hR.2, pay_in X.hts hG, List.mem_cons_self⟩, X.hts _ hme.1, X.hts _ hme.2.1, ⟨hme.2.2.1, hme.2.2.2.1⟩, fun sig h => by
      have h2 := hme.2.2.2.2
      rw [h] at h2
      exact (Option.some.inj h2).symm, X.hts _ hl, X.hts _ hs⟩ ⟨jIn_blind, j_pre X h1 h2 h3⟩ rfl hn h6.1 hst (lv_room hW) d ⟨by omega, by omega⟩
  · obtain ⟨X1, rfl, g1, g2, g3⟩ := hM1
    exact kk v S1 X1 (hI.step g1 g2 g3)
theorem GI.eqM (hI : GI (kS κ) (kD κ) (kB κ) (kT κ) b0 N xs SM L w Xm) : memG 0 358 (kD κ) (kB κ) S Xm = memG 358 387 (kD κ) (kB κ) SM (memG 0 358 (kD κ) (kB κ) S Xm) := by
  refine Eq.trans ?_ memG_comm
  rw [← hI.1]
/-- a call of the model, that writes -/
theorem r_callM (X : jX κ own cc nL ret) {y : MethodName} {c1 : ByteArray} {nL1 n idx : Nat} {ret1 : Option FieldType} {R1 : Room} {av : List Value} {o1 : Option (jR jS)} {kf : Int32 → jS → Option ρ} (bc1 bs1 : Nat) (hI : GI (kS κ) (kD κ) (kB κ) (kT κ) b0 N xs SM L w Xm)
    (hm : jCf (kL κ) (kD κ) (kB κ) (kT κ) y c1 nL1 ret1 R1 (.ref (kB κ + 358) :: av) (memG 358 387 (kD κ) (kB κ) SM (memG 0 358 (kD κ) (kB κ) S Xm)) (zD (kB κ)) o1 rvI (fun S9 M9 => M9 = memG 358 387 (kD κ) (kB κ) S9 (memG 0 358 (kD κ) (kB κ) S Xm)) (zD (kB κ))) (hme : jMe y c1 nL1 ret1 n) (hl : Cond.methodLink own idx y ∈ BW) (hs : Cond.instanceMethod y ∈ BW ∧ Cond.selects y.cls y y ∈ BW) (hy : y.cls = RX11) (d : decode cc pc = .ok (.invokevirtual idx, 3)) (hst : st = av.reverse ++ .ref (kB κ + 358) :: rest) (hn : av.length = n)
    (hR : R1.frames + 1 ≤ R.frames ∧ 8 + (nL1 + 11) + R1.locals ≤ R.locals) (hb : R1.cells + bc1 ≤ bc ∧ R1.slots + bs1 ≤ bs) (hW : (rest.map fun v => v.category).sum ≤ 8)
    (kk : ∀ (v : Int32) (S1 : jS) (X1 : jMem), GI (kS κ) (kD κ) (kB κ) (kT κ) b0 N xs S1 L w X1 → J κ nL R Qf (kf v S1) (memG 0 358 (kD κ) (kB κ) S X1) (zD (kB κ)) bc1 bs1 lv (pc + 3) (.int v :: rest)) :
    J κ nL R Qf (jbin0 o1 kf) (memG 0 358 (kD κ) (kB κ) S Xm) (zD (kB κ)) bc bs lv pc st := by
  rw [hI.eqM]
  refine j_call0V X bc1 bs1 hm hme hl hs (hy ▸ cf_X11) d (memG_at kf_358) hst hn hR hb hW (fun v S1 M1 hM1 => ?_)
  subst hM1
  rw [← memG_comm]
  exact kk v S1 _ hI.model
/-- a call of the model, that only reads -/
theorem r_callN (X : jX κ own cc nL ret) {y : MethodName} {c1 : ByteArray} {nL1 n idx : Nat} {ret1 : Option FieldType} {R1 : Room} {av : List Value} {o1 : Option (jR Unit)} {kf : Int32 → Unit → Option ρ} (bc1 bs1 : Nat) (hI : GI (kS κ) (kD κ) (kB κ) (kT κ) b0 N xs SM L w Xm)
    (hm : jCf (kL κ) (kD κ) (kB κ) (kT κ) y c1 nL1 ret1 R1 (.ref (kB κ + 358) :: av) (memG 358 387 (kD κ) (kB κ) SM (memG 0 358 (kD κ) (kB κ) S Xm)) (zD (kB κ)) o1 rvI (fun (_ : Unit) M9 => M9 = memG 358 387 (kD κ) (kB κ) SM (memG 0 358 (kD κ) (kB κ) S Xm)) (zD (kB κ))) (hme : jMe y c1 nL1 ret1 n) (hl : Cond.methodLink own idx y ∈ BW) (hs : Cond.instanceMethod y ∈ BW ∧ Cond.selects y.cls y y ∈ BW) (hy : y.cls = RX11) (d : decode cc pc = .ok (.invokevirtual idx, 3)) (hst : st = av.reverse ++ .ref (kB κ + 358) :: rest) (hn : av.length = n)
    (hR : R1.frames + 1 ≤ R.frames ∧ 8 + (nL1 + 11) + R1.locals ≤ R.locals) (hb : R1.cells + bc1 ≤ bc ∧ R1.slots + bs1 ≤ bs) (hW : (rest.map fun v => v.category).sum ≤ 8)
    (kk : ∀ (v : Int32) (u : Unit), J κ nL R Qf (kf v u) (memG 0 358 (kD κ) (kB κ) S Xm) (zD (kB κ)) bc1 bs1 lv (pc + 3) (.int v :: rest)) :
    J κ nL R Qf (jbin0 o1 kf) (memG 0 358 (kD κ) (kB κ) S Xm) (zD (kB κ)) bc bs lv pc st := by
  rw [hI.eqM]
  refine j_call0V X bc1 bs1 hm hme hl hs (hy ▸ cf_X11) d (memG_at kf_358) hst hn hR hb hW (fun v S1 M1 hM1 => ?_)
  subst hM1
  have := kk v S1
  rw [hI.eqM] at this
  exact this
/-- 0 or 1 -/
def bz (x : Int32) : Int32 := if x = 0 then 0 else 1
def zl (x : Int32) : Int64 := if x = 0 then 0 else 1
end LWR2
