section WLD
/-- one thing changes, with its log: what becomes of the other -/
theorem log_step {D : va_G} {Ba Bb t0 : Nat} {La Lb L1 : jLg} {X X1 : jMem} {S : jS} (ha : LogX D Ba t0 La X) (hb : LogX D Bb t0 Lb X) (ta : t0 < Ba) (tb : t0 < Bb) (hne : Ba + 358 ≤ Bb ∨ Bb + 358 ≤ Ba) (hd : ∀ a, adOf Ba X = some a → adOf Bb X = some a → a = t0) (hK : LogK D Ba t0 (memG 0 358 D Bb S X) L1 X1) :
    X1 = memG 0 358 D Bb S X1 ∧ LogX D Bb t0 Lb X1 ∧ ∀ a, adOf Ba X1 = some a → adOf Bb X1 = some a → a = t0 := by
  obtain ⟨l1, mc, ad, cap, f, a1, a2, a3, a4, a5, a6⟩ := ha
  obtain ⟨l2, mc2, ad2, cap2, f2, b1, b2, b3, b4, b5, b6⟩ := hb
  obtain ⟨k1, k2, k3⟩ := hK
  have e0 : adOf Ba (memG 0 358 D Bb S X) = some ad := adOf_of ((memG_out (by omega)).trans a1)
  have eb : adOf Bb X = some ad2 := adOf_of b1
  have ea : adOf Ba X = some ad := adOf_of a1
  have c1 : X1 (Bb + 66) = some (listC mc2 ad2 (Int32.ofNat Lb.length)) := (k3 (Bb + 66) _ (memG_66.trans b1) (by omega) (by
    rw [e0]
    intro h9
    have h9 := Option.some.inj h9
    omega)).1
  have c2 : 0 < cap2 → X1 ad2 = some (objs D cap2 f2) ∧ some ad2 ≠ adOf Ba X1 := fun hc => k3 ad2 _ ((memG_out (by omega)).trans (b2 hc)) (by omega) (by
    rw [e0]
    intro h9
    have h9 := Option.some.inj h9
    have := hd ad ea (by rw [eb, h9])
    omega)
  refine ⟨?_, ⟨l2, mc2, ad2, cap2, f2, c1, fun hc => (c2 hc).1, b3, b4, b5, fun i hi => ?_⟩, fun a h1 h2 => ?_⟩
  · funext q
    unfold memG
    by_cases h : Bb + 0 ≤ q ∧ q < Bb + 358 ∧ kd (q - Bb) ≠ 0
    · rw [if_pos h]
      refine (k3 q _ ?_ (by omega) ?_).1
      · unfold memG
        rw [if_pos h]
      · rw [e0]
        intro h9
        have h9 := Option.some.inj h9
        omega
    · rw [if_neg h]
  · obtain ⟨q, q1, q2, q3⟩ := b6 i hi
    refine ⟨q, q1, q2, (k3 q _ ((memG_out (by omega)).trans q3) (by omega) ?_).1⟩
    rw [e0]
    intro h9
    have h9 := Option.some.inj h9
    subst h9
    rcases a5 with a5 | a5
    · omega
    · have h8 := a2 a5.1
      rw [q3] at h8
      cases h8
  · have h3 : a = ad2 := Option.some.inj (h2.symm.trans (adOf_of c1))
    subst h3
    rcases b5 with b5 | b5
    · exact b5.2.1
    · exact absurd h1.symm (c2 b5.1).2
/-- at the head of the law's loop: the two logs, the script -/
def GJ (s : State) (D : va_G) (B t0 b0 N : Nat) (xs : Nat → Int32) (L L2 : jLg) (X : jMem) : Prop :=
  LogX D B t0 L X ∧ LogX D (B + 358) t0 L2 X ∧ (∀ a, adOf B X = some a → adOf (B + 358) X = some a → a = t0) ∧ t0 < B ∧ b0 < B ∧ (b0 < s.heap.size ∧ va_X b0 N xs s s.heap)
theorem GJ.o {s : State} {D : va_G} {B t0 b0 N : Nat} {xs : Nat → Int32} {L L2 L1 : jLg} {X X1 : jMem} {T : jS} (h : GJ s D B t0 b0 N xs L L2 X) (hK : LogK D B t0 (memG 0 358 D (B + 358) T X) L1 X1) : X1 = memG 0 358 D (B + 358) T X1 ∧ GJ s D B t0 b0 N xs L1 L2 X1 := by
  obtain ⟨h1, h2, h3, h4, h5⟩ := h
  obtain ⟨g1, g2, g3⟩ := log_step h1 h2 h4 (by omega) (Or.inl (Nat.le_refl _)) h3 hK
  exact ⟨g1, hK.1, g2, g3, h4, h5⟩
theorem GJ.p {s : State} {D : va_G} {B t0 b0 N : Nat} {xs : Nat → Int32} {L L2 L1 : jLg} {X X1 : jMem} {S : jS} (h : GJ s D B t0 b0 N xs L L2 X) (hK : LogK D (B + 358) t0 (memG 0 358 D B S X) L1 X1) : X1 = memG 0 358 D B S X1 ∧ GJ s D B t0 b0 N xs L L1 X1 := by
  obtain ⟨h1, h2, h3, h4, h5⟩ := h
  obtain ⟨g1, g2, g3⟩ := log_step h2 h1 (by omega) h4 (Or.inr (Nat.le_refl _)) (fun a q1 q2 => h3 a q2 q1) hK
  exact ⟨g1, g2, hK.1, fun a q1 q2 => g3 a q2 q1, h4, h5⟩
theorem GJ.hLo {s : State} {D : va_G} {B t0 b0 N : Nat} {xs : Nat → Int32} {L L2 : jLg} {X : jMem} {T : jS} (h : GJ s D B t0 b0 N xs L L2 X) : LogX D B t0 L (memG 0 358 D (B + 358) T X) := h.1.over h.2.1.1 (Or.inl (by omega))
theorem GJ.hLp {s : State} {D : va_G} {B t0 b0 N : Nat} {xs : Nat → Int32} {L L2 : jLg} {X : jMem} {S : jS} (h : GJ s D B t0 b0 N xs L L2 X) : LogX D (B + 358) t0 L2 (memG 0 358 D B S X) := h.2.1.over h.1.1 (Or.inr (by omega))
theorem GJ.hz {s : State} {D : va_G} {B t0 b0 N : Nat} {xs : Nat → Int32} {L L2 : jLg} {X : jMem} (h : GJ s D B t0 b0 N xs L L2 X) : ∀ n, zD D n → B + 358 ≤ n := fun n hn => Nat.le_trans (Nat.le_trans (Nat.le_add_right _ _) h.2.1.1) hn
/-! the script, read by a method of the law -/
def jInS (D : va_G) (B t0 : Nat) (M : jMem) (z : Nat → Prop) (b0 N : Nat) (xs : Nat → Int32) : State → Prop := fun U => jIn D B t0 M z U ∧ b0 < B ∧ b0 < U.heap.size ∧ va_X b0 N xs U U.heap
theorem jInS_blind {av : List Value} {D : va_G} {B t0 : Nat} {M : jMem} {z : Nat → Prop} {b0 N : Nat} {xs : Nat → Int32} : FrameBlind (va_Pc av (jInS D B t0 M z b0 N xs)) := fun _ U _ _ h => ⟨h.1, ⟨h.2.1.1, h.2.1.2.1, h.2.1.2.2.moved (State.WarmedH.refl U) (Nat.le_refl _) (fun _ _ _ => rfl)⟩, h.2.2.1, h.2.2.2.1, h.2.2.2.2.moved (State.WarmedH.refl U).alike⟩
def f_L_cell (N : Nat) (xs : Nat → Int32) (k : Int32) : Option (jR Unit) := if Int32.ofNat N ≤ k then some (0, ((7919 : Int32) * (k + (1483 : Int32))) * (k + (421 : Int32)), ()) else chk (inb k N) (some (0, xs k.toNatClampNeg, ()))
abbrev rm_L_cell : Room := { frames := 0, cells := 0, slots := 0, locals := 0 }
section
variable {κ : jCx} {own : String} {cc : ByteArray} {nL : Nat} {ret : Option FieldType} {R : Room} {ρ : Type} {Qf : ρ → State → Prop} {o : Option ρ} {M : jMem} {z : Nat → Prop} {bc bs : Nat} {lv : List (Nat × Value)} {pc : Nat} {st : List Value} {b0 N : Nat} {xs : Nat → Int32}
theorem s_ld (X : jX κ own cc nL ret) {i : Int32} (hB : b0 < kB κ) (hb : b0 < (kS κ).heap.size) (hx : va_X b0 N xs (kS κ) (kS κ).heap) (d : decode cc pc = .ok (.iaload, 1)) (kk : J κ nL R Qf o M z bc bs lv (pc + 1) (.int (xs i.toNatClampNeg) :: st)) :
    J κ nL R Qf (chk (inb i N) o) M z bc bs lv pc (.int i :: .ref b0 :: st) := j_chk fun h r ho H locs cells slots ls h1 h2 h3 h4 h5 h6 => va_sld X.1 X.2.1 hx hb (Nat.not_le.mpr hB) h3 (inb_in h) d (kk r ho H locs cells slots ls h1 h2 h3 h4 h5 h6)
theorem s_len (X : jX κ own cc nL ret) (hB : b0 < kB κ) (hb : b0 < (kS κ).heap.size) (hx : va_X b0 N xs (kS κ) (kS κ).heap) (d : decode cc pc = .ok (.arraylength, 1)) (kk : J κ nL R Qf o M z bc bs lv (pc + 1) (.int (Int32.ofNat N) :: st)) :
    J κ nL R Qf o M z bc bs lv pc (.ref b0 :: st) := fun r ho H locs cells slots ls h1 h2 h3 h4 h5 h6 => va_slen X.1 X.2.1 hx hb (Nat.not_le.mpr hB) h3 d (kk r ho H locs cells slots ls h1 h2 h3 h4 h5 h6)
end
theorem c_L_cell {l : Launch} {D : va_G} {B t0 : Nat} (hl9 : l.stackTraces = false) (M : jMem) (z : Nat → Prop) (b0 N : Nat) (xs : Nat → Int32) (k : Int32) : ∀ r, f_L_cell N xs k = some r →
    vx_Met l yL_cell (jws yL_cell cL_cell 2 (some .int)) rm_L_cell (va_Pc [.ref b0, .int k] (jInS D B t0 M z b0 N xs)) (jQ D B r.1 (rvI r.2.1) (fun M9 n => M9 = M ∧ z n)) (jXC D B r.1 (fun M9 _ => M9 = M)) 0 0 (fun q => B ≤ q) := by
  intro r ho
  refine vx_ofW (ws' := BW) (cc := cL_cell) (maxL := 2) (ret := some .int) (by decide +kernel) rfl ?_
  intro p e s m args below meth c s₁ Bd hml htab hv
  obtain ⟨rfl, ⟨hM, hz, hK⟩, hB, hb, hx⟩ := hv
  have hts := atoms_spec (ws := jws yL_cell cL_cell 2 (some .int)) Bd.pre
  have hown : s.vm.findClass yL_cell.cls = some m.cls := findClass_of_methodNamed Bd.named
  have X : jX ⟨p, l, e, s, m, [Value.ref b0, .int k].toArray, below, meth, c, D, B, t0⟩ RL cL_cell 2 (some .int) := ⟨Bd.exec, Bd.bytes, hml, Bd.returns, hown, fun w hw => hts w (List.mem_cons_of_mem _ hw), Bd.notSynchronized, hl9, hK⟩
  have hj : J ⟨p, l, e, s, m, [Value.ref b0, .int k].toArray, below, meth, c, D, B, t0⟩ 2 rm_L_cell (jQf ⟨p, l, e, s, m, [Value.ref b0, .int k].toArray, below, meth, c, D, B, t0⟩ rm_L_cell rvI (fun (_ : Unit) M9 => M9 = M) z) (f_L_cell N xs k) M z 0 0 [(0, .ref b0), (1, .int k)] 0 [] := by
    unfold f_L_cell
    refine j_iload_n X 1 rfl dL_cell_0 rfl ?_
    refine j_aload_n X 0 rfl dL_cell_1 rfl ?_
    refine s_len X hB hb hx dL_cell_2 ?_
    refine j_icmp_ge X 12 dL_cell_3 (by decide) ?_ ?_
    · refine j_sipush X (7919 : Int32) dL_cell_12 (by rfl) ?_
      refine j_iload_n X 1 rfl dL_cell_15 rfl ?_
      refine j_sipush X (1483 : Int32) dL_cell_16 (by rfl) ?_
      refine j_iadd X dL_cell_19 ?_
      refine j_imul X dL_cell_20 ?_
      refine j_iload_n X 1 rfl dL_cell_21 rfl ?_
      refine j_sipush X (421 : Int32) dL_cell_22 (by rfl) ?_
      refine j_iadd X dL_cell_25 ?_
      refine j_imul X dL_cell_26 ?_
      exact j_iret X dL_cell_27 rfl (fun _ h => h)
    · refine j_aload_n X 0 rfl dL_cell_6 rfl ?_
      refine j_iload_n X 1 rfl dL_cell_7 rfl ?_
      refine s_ld X hB hb hx dL_cell_8 ?_
      refine j_goto X 27 dL_cell_9 (by decide) ?_
      exact j_iret X dL_cell_27 rfl (fun _ h => h)
  have hlv0 := lv_entry [Value.ref b0, .int k] (n := 2) (Nat.le_of_ble_eq_true rfl)
  rw [lg_entry_eq]
  exact hj r ho s.heap [] 0 0 _ hM hz va_S.rf (by simp) (by simp) hlv0
variable {κ : jCx} {own : String} {cc : ByteArray} {nL : Nat} {ret : Option FieldType} {R : Room} {ρ : Type} {Qf : ρ → State → Prop} {M : jMem} {z : Nat → Prop} {bc bs : Nat} {lv : List (Nat × Value)} {pc : Nat} {st : List Value} {b0 N : Nat} {xs : Nat → Int32}
theorem j_cell (X : jX κ own cc nL ret) {idx : Nat} {k : Int32} {rest : List Value} {kf : Int32 → Unit → Option ρ} (hB : b0 < kB κ) (hb0 : b0 < (kS κ).heap.size) (hx : va_X b0 N xs (kS κ) (kS κ).heap) (hme : jMe yL_cell cL_cell 2 (some .int) 2) (hl : Cond.methodLink own idx yL_cell ∈ BW) (hs : Cond.static yL_cell ∈ BW) (d : decode cc pc = .ok (.invokestatic idx, 3)) (hst : st = .int k :: .ref b0 :: rest)
    (hR : 1 ≤ R.frames ∧ 8 + (2 + 11) ≤ R.locals) (hW : (rest.map fun v => v.category).sum ≤ 8)
    (kk : ∀ v, J κ nL R Qf (kf v ()) M z bc bs lv (pc + 3) (.int v :: rest)) :
    J κ nL R Qf (jbin0 (f_L_cell N xs k) kf) M z bc bs lv pc st := by
  refine j_run0 (rv1 := rvI) (PM1 := fun (_ : Unit) M9 => M9 = M) (z1 := z) (R1 := rm_L_cell) (rest := rest) (bc1 := bc) (bs1 := bs) ⟨by show 0 + _ ≤ _; omega, by show 0 + _ ≤ _; omega⟩ (a := [Value.ref b0, .int k].toArray) (fun v S1 ho1 H locs cells slots ls h1 h2 h3 h4 h5 h6 => ?_) (fun v S1 M1 hM1 => ?_)
  · refine va_runS X.fix (jMet0 (c_L_cell (D := kD κ) (B := kB κ) (t0 := kT κ) X.tr M z b0 N xs k _ ho1) jX0) ⟨callB_of 2 X.hts (jgood hme.1) rfl rfl rfl (X.hts _ hme.2.1) (X.hts _ hl) hme.2.2 ⟨hR.1, hR.2⟩, X.hts _ hs⟩ ⟨jInS_blind, fun U hU hW => ?_⟩ rfl rfl h6.1 hst (lv_room hW) d ⟨by show _ + 0 ≤ _; omega, by show _ + 0 ≤ _; omega⟩
    have hp := j_pre (av := [Value.ref b0, .int k]) X h1 h2 h3 U hU hW
    refine ⟨rfl, hp.2, hB, by rw [hU]; exact Nat.lt_of_lt_of_le hb0 h3.1, ?_⟩
    rw [hU]
    exact (hx.kept (h3.2.1 b0 hb0 (Nat.not_le.mpr hB))).moved hW.alike
  · subst hM1
    exact kk v
end WLD
