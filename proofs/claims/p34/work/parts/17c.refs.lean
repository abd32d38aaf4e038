section REF
variable {κ : jCx} {own : String} {cc : ByteArray} {nL : Nat} {ret : Option FieldType} {R : Room} {ρ : Type} {Qf : ρ → State → Prop} {o : Option ρ} {M : jMem} {z : Nat → Prop} {bc bs : Nat} {lv : List (Nat × Value)} {pc : Nat} {st : List Value}
theorem j_null (X : jX κ own cc nL ret) (d : decode cc pc = .ok (.aconst_null, 1)) (k : J κ nL R Qf o M z bc bs lv (pc + 1) (.null :: st)) : J κ nL R Qf o M z bc bs lv pc st := fun r ho H locs cells slots ls h1 h2 h3 h4 h5 h6 => lv_null X.1 X.2.1 d (k r ho H locs cells slots ls h1 h2 h3 h4 h5 h6)
theorem j_aloadN_n (X : jX κ own cc nL ret) (q : Nat) {kk : Fin 4} {i : Nat} (hk : lv[q]? = some (i, .null)) (d : decode cc pc = .ok (.aload_n kk, 1)) (hi : (kk : Nat) = i) (k : J κ nL R Qf o M z bc bs lv (pc + 1) (.null :: st)) : J κ nL R Qf o M z bc bs lv pc st := fun r ho H locs cells slots ls h1 h2 h3 h4 h5 h6 => lv_aload_nN X.1 X.2.1 d hi (lv_at h6 q hk) (k r ho H locs cells slots ls h1 h2 h3 h4 h5 h6)
theorem j_dup_x1 (X : jX κ own cc nL ret) {va vb : Value} (d : decode cc pc = .ok (.dup_x1, 1)) (ha : va.category = 1) (hb : vb.category = 1) (k : J κ nL R Qf o M z bc bs lv (pc + 1) (va :: vb :: va :: st)) : J κ nL R Qf o M z bc bs lv pc (va :: vb :: st) := fun r ho H locs cells slots ls h1 h2 h3 h4 h5 h6 => lv_dup_x1 X.1 X.2.1 d ha hb (k r ho H locs cells slots ls h1 h2 h3 h4 h5 h6)
theorem j_gets (X : jX κ own cc nL ret) {C n d' : String} {v : Value} {idx : Nat} (hZ : va_Z C n d' v (fun q => kB κ ≤ q) (kS κ) (kS κ).heap) (hl : Cond.fieldLink own idx C n d' ∈ BW) (d : decode cc pc = .ok (.getstatic idx, 3)) (k : J κ nL R Qf o M z bc bs lv (pc + 3) (v :: st)) : J κ nL R Qf o M z bc bs lv pc st := fun r ho H locs cells slots ls h1 h2 h3 h4 h5 h6 =>
  va_gets X.1 X.2.1 hZ h3 X.ow (X.hts _ hl) (fun _ h => h) d (k r ho H locs cells slots ls h1 h2 h3 h4 h5 h6)
theorem j_acmp_eq (X : jX κ own cc nL ret) {x y : Nat} {off : Int} (tgt : Nat) (d : decode cc pc = .ok (.if_acmp .eq off, 3)) (ht : (pc : Int) + off = (tgt : Int)) (a : x = y → J κ nL R Qf o M z bc bs lv tgt st) (b : ¬ x = y → J κ nL R Qf o M z bc bs lv (pc + 3) st) : J κ nL R Qf o M z bc bs lv pc (.ref y :: .ref x :: st) := fun r ho H locs cells slots ls h1 h2 h3 h4 h5 h6 =>
  lv_acmp_eq (rx := some x) (ry := some y) X.1 X.2.1 d ht (fun q => a (Option.some.inj q) r ho H locs cells slots ls h1 h2 h3 h4 h5 h6) (fun q => b (fun e => q (by rw [e])) r ho H locs cells slots ls h1 h2 h3 h4 h5 h6)
theorem j_acmp_ne (X : jX κ own cc nL ret) {x y : Nat} {off : Int} (tgt : Nat) (d : decode cc pc = .ok (.if_acmp .ne off, 3)) (ht : (pc : Int) + off = (tgt : Int)) (a : ¬ x = y → J κ nL R Qf o M z bc bs lv tgt st) (b : x = y → J κ nL R Qf o M z bc bs lv (pc + 3) st) : J κ nL R Qf o M z bc bs lv pc (.ref y :: .ref x :: st) := fun r ho H locs cells slots ls h1 h2 h3 h4 h5 h6 =>
  lv_acmp_ne (rx := some x) (ry := some y) X.1 X.2.1 d ht (fun q => a (fun e => q (by rw [e])) r ho H locs cells slots ls h1 h2 h3 h4 h5 h6) (fun q => b (Option.some.inj q) r ho H locs cells slots ls h1 h2 h3 h4 h5 h6)
theorem j_ldcM (X : jX κ own cc nL ret) {C : String} {idx mi : Nat} (hl : Cond.classLink own idx C ∈ BW) (hM : va_Mi C mi (kS κ)) (d : decode cc pc = .ok (.ldc idx, 2)) (k : J κ nL R Qf o M z bc bs lv (pc + 2) (.ref mi :: st)) : J κ nL R Qf o M z bc bs lv pc st := fun r ho H locs cells slots ls h1 h2 h3 h4 h5 h6 =>
  va_ldcM X.1 X.2.1 X.ow (X.hts _ hl) hM d (k r ho H locs cells slots ls h1 h2 h3 h4 h5 h6)
theorem j_getC (X : jX κ own cc nL ret) {idx mi a n : Nat} {f : Nat → Option Nat} (hl : Cond.methodLink own idx ⟨"java/lang/Object", "getClass", "()Ljava/lang/Class;"⟩ ∈ BW) (hd : Cond.declares ⟨"java/lang/Object", "getClass", "()Ljava/lang/Class;"⟩ ∈ tables_1) (hs : Cond.selects "[Ljava/lang/Object;" ⟨"java/lang/Object", "getClass", "()Ljava/lang/Class;"⟩ ⟨"java/lang/Object", "getClass", "()Ljava/lang/Class;"⟩ ∈ BW) (hi : Cond.instanceMethod ⟨"java/lang/Object", "getClass", "()Ljava/lang/Class;"⟩ ∈ BW) (hn : Cond.native ⟨"java/lang/Object", "getClass", "()Ljava/lang/Class;"⟩ ∈ BW)
    (hM : va_Mi "[Ljava/lang/Object;" mi (kS κ)) (ha : M a = some (.inl ((kD κ).1 29, n, .inr (.inr (.inr (.inr f)))))) (hR : 1 ≤ R.frames ∧ (st.map fun v => v.category).sum + 14 ≤ R.locals) (d : decode cc pc = .ok (.invokevirtual idx, 3)) (k : J κ nL R Qf o M z bc bs lv (pc + 3) (.ref mi :: st)) : J κ nL R Qf o M z bc bs lv pc (.ref a :: st) := fun r ho H locs cells slots ls h1 h2 h3 h4 h5 h6 =>
  va_getC X.1 X.2.1 (by rw [X.ml]; exact h6.1.symm) X.ow (X.hts _ hl) (va_Nw.use rfl (X.nest hd rfl)) (X.hts _ hs) (X.hts _ hi) (X.hts _ hn) hM ⟨_, h1 a _ ha, rfl, va_nmO (X.K.2 9 _ rfl).2 rfl⟩ hR.1 hR.2 d (k r ho H locs cells slots ls h1 h2 h3 h4 h5 h6)
theorem j_castY (X : jX κ own cc nL ret) {ci N idx a : Nat} {C nm : String} {T : u_T} {ty : Nat → FieldType} {fs : List Value} (hcl : jCl ci C T N ty) (hl : Cond.classLink own idx nm ∈ BW) (hc : Cond.castable C nm ∈ tables_1) (ha : M a = some (.inr (ci, fs))) (d : decode cc pc = .ok (.checkcast idx, 3)) (k : J κ nL R Qf o M z bc bs lv (pc + 3) (.ref a :: st)) : J κ nL R Qf o M z bc bs lv pc (.ref a :: st) := fun r ho H locs cells slots ls h1 h2 h3 h4 h5 h6 =>
  va_castY X.1 X.2.1 X.ow (X.hts _ hl) (X.nest hc rfl) (va_recv X.K (h1.one ha) (q0 := 0) hcl.1 rfl) d (k r ho H locs cells slots ls h1 h2 h3 h4 h5 h6)
/-- areturn -/
theorem j_aret {σ : Type} {PM : σ → jMem → Prop} {z' : Nat → Prop} {rt : FieldType} (X : jX κ own cc nL (some rt)) {x : Int32} {a : Nat} {S' : σ} (d : decode cc pc = .ok (.areturn, 1)) (hrt : (∃ n, rt = .object n) ∨ ∃ t, rt = .array t) (hp : PM S' M) (hz : ∀ n, z n → z' n) : J κ nL R (jQf κ R (fun _ => some (.ref a)) PM z') (some (0, x, S')) M z bc bs lv pc [.ref a] := fun r ho H locs cells slots ls h1 h2 h3 h4 h5 h6 => by
  cases ho
  exact vx_ret (W.widen (k := R.cells) (n := R.slots) (by omega) (by omega) (W.aret X.1 X.2.1 X.rt hrt (Or.inr ⟨_, rfl⟩) (fun t ht hW => ⟨rfl, rfl, ⟨M, ⟨hp, by rw [ht]; exact hz _ h2⟩, by rw [ht]; exact h1⟩, h3.F ht⟩) h3.2.2 d X.loc))
/-- aastore into an array of another class that takes it -/
theorem j_aastO (X : jX κ own cc nL ret) (q : Nat) {a n v ci N : Nat} {C E : String} {T : u_T} {ty : Nat → FieldType} {cA : ClassId} {f : Nat → Option Nat} {vs : List Value} {i : Int32} (hcl : jCl ci C T N ty) (ht : (jTys (kD κ))[q]? = some (cA, .object E)) (hca : Cond.castable C E ∈ tables_1) (hi : vp_in i n) (d : decode cc pc = .ok (.aastore, 1)) (hB : kB κ ≤ a) (hM : M a = some (.inl (cA, n, .inr (.inr (.inr (.inr f)))))) (hv : M v = some (.inr (ci, vs)))
    (kk : J κ nL R Qf o (jUp M a (.inl (cA, n, .inr (.inr (.inr (.inr (va_up f i.toNatClampNeg (some v)))))))) z bc bs lv (pc + 1) st) : J κ nL R Qf o M z bc bs lv pc (.ref v :: .int i :: .ref a :: st) := fun r ho H locs cells slots ls h1 h2 h3 h4 h5 h6 => by
  have hlt : i.toNatClampNeg < n := Nat.not_le.mp fun q => hi (Or.inr q)
  have h0 : ¬ i < 0 := fun q => hi (Or.inl q)
  obtain ⟨r', hr', cellV, g1, g2, g3, -⟩ := h1 v _ hv
  have hcls := (X.K.1 ci _ hcl.1).2
  obtain ⟨kA, comp, k1, k2, k3, -⟩ := (X.K.2 q _ ht).2
  obtain ⟨kE, hkE, -⟩ := Vm.findClass_spec k3
  obtain ⟨c0, t1, f1, f2, f3⟩ := Cond.castable_spec (va_Nw.use (A := #[]) rfl (X.nest hca rfl))
  cases hcls.1.symm.trans f1
  cases k3.symm.trans f2
  obtain ⟨kC, hkC, -⟩ := hcls.2
  refine W.aast X.1 X.2.1 (h1 a _ hM) (fun q h => by cases h) (fun h => by cases h) k1 k2 rfl hkE ⟨h0, by show _ < (arrV _ _ _).slots.size; rw [arrV_size]; exact hlt⟩ g1 (fun q h => by rw [g3] at h; cases h) (by rw [g2]; exact hkC) (by rw [g2]; exact f3) rfl rfl d fun H1 e z1 oq => ?_
  refine kk r ho H1 _ cells slots ls (h1.up ?_ oq) (by rw [z1]; exact h2) (h3.put z1 oq hB) h4 h5 h6
  show H1[a]? = some (vp_cell _ _)
  rw [e]
  rw [vp_cell_q, vp_cell_q, arrV_store]
  congr 2
  funext q
  by_cases hq : q = i.toNatClampNeg
  · subst hq
    simp [updV, va_up, va_rf]
  · simp [updV, va_up, hq]
/-- System.arraycopy between arrays of Object whose elements are of one class of ours -/
theorem j_copyQ (X : jX κ own cc nL ret) {ci N idx : Nat} {C : String} {T : u_T} {ty : Nat → FieldType} {a0 a : Nat} {n0 n1 : Nat} {f g : Nat → Option Nat} {sp dp n : Int32} (hcl : jCl ci C T N ty) (hca : Cond.castable C "java/lang/Object" ∈ tables_1) (wl : Cond.methodLink own idx arraycopyName ∈ BW) (wn : Cond.native arraycopyName ∈ BW) (ws : Cond.static arraycopyName ∈ BW) (wi : Cond.initialized "java/lang/System" ∈ BW)
    (g1 : ¬ sp < 0) (g2 : ¬ dp < 0) (g3 : ¬ n < 0) (g4 : sp.toNatClampNeg + n.toNatClampNeg ≤ n0) (g5 : dp.toNatClampNeg + n.toNatClampNeg ≤ n1) (hel : ∀ i : Nat, i < n.toNatClampNeg → ∀ y : Nat, f (sp.toNatClampNeg + i) = some y → ∃ fs, M y = some (.inr (ci, fs)))
    (hR : 1 ≤ R.frames ∧ (st.map fun v => v.category).sum + (nativeFrameWords "java/lang/System" "arraycopy" 5 + 11) ≤ R.locals) (d : decode cc pc = .ok (.invokestatic idx, 3)) (hB : kB κ ≤ a) (hM0 : M a0 = some (.inl ((kD κ).1 29, n0, .inr (.inr (.inr (.inr f)))))) (hM1 : M a = some (.inl ((kD κ).1 29, n1, .inr (.inr (.inr (.inr g))))))
    (kk : J κ nL R Qf o (jUp M a (.inl ((kD κ).1 29, n1, .inr (.inr (.inr (.inr (va_cpy f g sp.toNatClampNeg dp.toNatClampNeg n.toNatClampNeg))))))) z bc bs lv (pc + 3) st) : J κ nL R Qf o M z bc bs lv pc (.int n :: .int dp :: .ref a :: .int sp :: .ref a0 :: st) := fun r ho H locs cells slots ls h1 h2 h3 h4 h5 h6 => by
  have nn : ∀ z : Int32, ¬ z < 0 → z.toInt = (z.toNatClampNeg : Int) := by
    intro z hz
    have hz0 : (0 : Int) ≤ z.toInt := by
      have := Int32.not_lt.mp hz
      simpa using Int32.le_iff_toInt_le.mp this
    show z.toInt = ((z.toInt.toNat : Nat) : Int)
    omega
  intro T9 hT Xs
  have hc0 : H[a0]? = some (vp_cell ((kD κ).1 29) (n0, .inr (.inr (.inr (.inr f))))) := h1 a0 _ hM0
  have hc1 : H[a]? = some (vp_cell ((kD κ).1 29) (n1, .inr (.inr (.inr (.inr g))))) := h1 a _ hM1
  obtain ⟨-, k0, hk0, cm0, hkk0⟩ := (X.K.2 9 _ rfl).1 n0 (fun j => va_rf (f j))
  obtain ⟨-, k1, hk1, cm1, hkk1⟩ := (X.K.2 9 _ rfl).1 n1 (fun j => va_rf (g j))
  obtain ⟨vm', X', step⟩ := Xs.arraycopy X.1 X.ow (X.hts _ wl) (X.hts _ wn) (X.hts _ ws) (X.hts _ wi) (src := a0) (dst := a) (cs := vp_cell ((kD κ).1 29) (n0, .inr (.inr (.inr (.inr f))))) (cd := vp_cell ((kD κ).1 29) (n1, .inr (.inr (.inr (.inr g))))) (srcPos := sp) (destPos := dp) (n := n) (by rw [hT]; exact hc0) (by rw [hT]; exact hc1)
    (fun _ h => by cases h) (fun _ h => by cases h) (fun h => by cases h) (fun h => by cases h) hk0 hk1 hkk0 hkk1 rfl g1 g2 g3
    (by rw [nn sp g1, nn n g3]; show ¬ _ > ((arrV ((kD κ).1 29) n0 (fun j => va_rf (f j))).slots.size : Int); rw [arrV_size]; omega)
    (by rw [nn dp g2, nn n g3]; show ¬ _ > ((arrV ((kD κ).1 29) n1 (fun j => va_rf (g j))).slots.size : Int); rw [arrV_size]; omega)
    (fun vm₁ hal i hi => by
      have e : (vp_cell ((kD κ).1 29) (n0, .inr (.inr (.inr (.inr f))))).slots.getD (sp.toNatClampNeg + i) .null = va_rf (f (sp.toNatClampNeg + i)) := by
        show (arrV ((kD κ).1 29) n0 (fun j => va_rf (f j))).slots.getD _ _ = _
        rw [Array.getD_eq_getD_getElem?, arrV_read _ _ (by omega)]
        rfl
      rw [e]
      cases hy : f (sp.toNatClampNeg + i) with
      | none => exact ⟨rfl, trivial⟩
      | some y =>
        obtain ⟨fs, hfs⟩ := hel i hi y hy
        obtain ⟨cellV, q1, q2, q3⟩ := va_recv X.K (h1.one hfs) (q0 := 0) hcl.1 rfl
        obtain ⟨kA, comp, r1, r2, r3, -⟩ := (X.K.2 9 _ rfl).2
        cases hk1.symm.trans r1
        cases hkk1.symm.trans r2
        obtain ⟨kC, hkC, -⟩ := Vm.findClass_spec q3
        obtain ⟨kE, hkE, -⟩ := Vm.findClass_spec r3
        obtain ⟨kC', hkC', -⟩ := hal.2.2 _ _ hkC
        obtain ⟨kE', hkE', -⟩ := hal.2.2 _ _ hkE
        obtain ⟨c9, t9, f1, f2, f3⟩ := Cond.castable_spec (va_Nw.use (A := #[]) rfl (X.nest hca rfl))
        cases q3.symm.trans f1
        cases r3.symm.trans f2
        refine ⟨rfl, cellV, (show T9.heap[y]? = some cellV by rw [hT]; exact q1), (fun q h => by rw [h] at q2; cases q2), ⟨kC', hkC'⟩, ?_, ?_⟩
        · exact ⟨kE', hkE'⟩
        · show vm₁.assignable _ _ = true
          rw [hal.assignable]
          exact f3)
    (g := F0 (kM κ) pc ls (.int n :: .int dp :: .ref a :: .int sp :: .ref a0 :: st)) rfl (by show ls.size = _; rw [X.ml]; exact h6.1) (rest := st) rfl (by rw [X.2.1]; exact d) hR.1 (by show 2 * 0 + _ + _ ≤ _; omega)
  have e1 : copied (vp_cell ((kD κ).1 29) (n0, .inr (.inr (.inr (.inr f))))) (vp_cell ((kD κ).1 29) (n1, .inr (.inr (.inr (.inr g))))) sp dp n = vp_cell ((kD κ).1 29) (n1, .inr (.inr (.inr (.inr (va_cpy f g sp.toNatClampNeg dp.toNatClampNeg n.toNatClampNeg))))) := by
    rw [vp_cell_q, vp_cell_q, vp_cell_q]
    exact va_copied (fun z => va_rf z) ((kD κ).1 29) ((kD κ).1 29) f g g4
  rw [e1] at X' step
  have hl : a < H.size := (Array.getElem?_eq_some_iff.mp hc1).1
  have hheap : ((T9.setVm vm').setCell a (vp_cell ((kD κ).1 29) (n1, .inr (.inr (.inr (.inr (va_cpy f g sp.toNatClampNeg dp.toNatClampNeg n.toNatClampNeg))))))).heap = H.setIfInBounds a (vp_cell ((kD κ).1 29) (n1, .inr (.inr (.inr (.inr (va_cpy f g sp.toNatClampNeg dp.toNatClampNeg n.toNatClampNeg)))))) := by rw [← hT]; rfl
  have oq : ∀ q : Nat, q ≠ a → (H.setIfInBounds a (vp_cell ((kD κ).1 29) (n1, .inr (.inr (.inr (.inr (va_cpy f g sp.toNatClampNeg dp.toNatClampNeg n.toNatClampNeg)))))))[q]? = H[q]? := fun q hq => by simp [Array.getElem?_setIfInBounds, Ne.symm hq]
  obtain ⟨t, a1, b1⟩ := kk r ho _ _ cells slots ls (h1.up (show (H.setIfInBounds a _)[a]? = some _ by simp [Array.getElem?_setIfInBounds, hl]) oq) (by simpa using h2) ⟨by simp; exact h3.1, fun q q1 q2 => by
      rw [oq q (fun e => q2 (by rw [e]; exact hB))]
      exact h3.2.1 q q1 q2, fun q hq => by
      rcases List.mem_append.mp hq with h | h
      · exact h3.2.2 q h
      · obtain ⟨z, -, hz⟩ := List.mem_map.mp h
        rw [← hz]
        exact hB⟩ h4 h5 h6 _ hheap X'
  exact ⟨t, step t a1, b1⟩
/-- Math.min -/
theorem j_mmin (X : jX κ own cc nL ret) {idx : Nat} {x y : Int32} (hl : Cond.methodLink own idx Lib.Math.min.name ∈ BW) (hs : Cond.static Lib.Math.min.name ∈ BW) (hi : Cond.initialized "java/lang/Math" ∈ BW) (hc : Cond.code Lib.Math.min.name Lib.Math.min.code 2 (some .int) ∈ BW) (d : decode cc pc = .ok (.invokestatic idx, 3)) (hR : 1 ≤ R.frames ∧ (st.map fun v => v.category).sum + 13 ≤ R.locals)
    (k : J κ nL R Qf o M z bc bs lv (pc + 3) (.int (if y < x then y else x) :: st)) : J κ nL R Qf o M z bc bs lv pc (.int y :: .int x :: st) := fun r ho H locs cells slots ls h1 h2 h3 h4 h5 h6 =>
  va_mmin X.1 X.2.1 (by rw [X.ml]; exact h6.1.symm) X.ow (X.hts _ hl) (X.hts _ hs) (X.hts _ hi) (X.hts _ hc) hR.1 hR.2 (by omega) (by omega) d (k r ho H locs cells slots ls h1 h2 h3 h4 h5 h6)
end REF
section REF2
variable {κ : jCx} {own : String} {cc : ByteArray} {nL : Nat} {ret : Option FieldType} {R : Room} {ρ : Type} {Qf : ρ → State → Prop} {o : Option ρ} {M : jMem} {z : Nat → Prop} {bc bs : Nat} {lv : List (Nat × Value)} {pc : Nat} {st : List Value}
/-- a field that another class declares: the two words name one field -/
theorem j_getS (X : jX κ own cc nL ret) {ci : Nat} (k : Nat) {fs : List Value} {C rf : String} {T : u_T} {N idx : Nat} {ty : Nat → FieldType} {v : Value} {a : Nat} (hcl : jCl ci C T N ty) (hk : k < N) (hl : Cond.fieldLink own idx rf (T k).2.1 (T k).2.2.1 ∈ BW) (hs : Cond.sameField rf (T k).1 (T k).2.1 (T k).2.2.1 ∈ BW) (d : decode cc pc = .ok (.getfield idx, 3)) (hM : M a = some (.inr (ci, fs))) (hv : fs[k]? = some v)
    (kk : J κ nL R Qf o M z bc bs lv (pc + 3) (v :: st)) : J κ nL R Qf o M z bc bs lv pc (.ref a :: st) := fun r ho H locs cells slots ls h1 h2 h3 h4 h5 h6 =>
  va_get X.1 X.2.1 X.hts hcl.2.1 X.ow X.K (h1.one hM) 0 rfl hcl.1 k hk (X.hts _ hl) (u_same (X.hts _ hs)) hv d (kk r ho H locs cells slots ls h1 h2 h3 h4 h5 h6)
theorem j_putS (X : jX κ own cc nL ret) {ci : Nat} (k : Nat) {fs : List Value} {C rf : String} {T : u_T} {N idx : Nat} {ty : Nat → FieldType} {v : Value} {a : Nat} (hcl : jCl ci C T N ty) (hk : k < N) (hl : Cond.fieldLink own idx rf (T k).2.1 (T k).2.2.1 ∈ BW) (hs : Cond.sameField rf (T k).1 (T k).2.1 (T k).2.2.1 ∈ BW) (d : decode cc pc = .ok (.putfield idx, 3)) (hfin : (T k).2.2.2 = false) (hn : narrow (ty k) v = v) (hfit : fits (ty k) v = true) (hB : kB κ ≤ a) (hM : M a = some (.inr (ci, fs))) (hlen : k < fs.length)
    (kk : J κ nL R Qf o (jUp M a (.inr (ci, fs.set k v))) z bc bs lv (pc + 3) st) : J κ nL R Qf o M z bc bs lv pc (v :: .ref a :: st) := fun r ho H locs cells slots ls h1 h2 h3 h4 h5 h6 => by
  obtain ⟨r', h9, cell, q1, q2, q3, q4⟩ := h1 a _ hM
  have hr : r' = (C, T, N) := Option.some.inj (h9.symm.trans hcl.1)
  subst hr
  obtain ⟨hS, hfc, kC, hkC, hkind⟩ := X.K.1 ci _ hcl.1
  obtain ⟨cf, kf, fi, f, hi, hsl⟩ := hS k hk
  have hlay := X.hts _ (hcl.2.1 _ (u_in_lay hk))
  unfold u_lay at hlay
  rw [if_neg (by rw [hfin]; decide)] at hlay
  have hst := (u_facts hfc hkC (u_lays X.hts hcl.2.1 hk) hi).1
  have h6' := u_store hfc hkC hkind hlay hi (hcl.2.2.1 k hk) hn hfit
  refine W.putK X.1 X.2.1 (f := f) ⟨X.ow, X.hts _ hl, ⟨_, _, _, u_same (X.hts _ hs) _ hi⟩, hst⟩ (by rw [q2]; exact h6') q1 q3 (by rw [hsl]; exact k2_hasslot (q4 k hk)) rfl rfl d fun H' e1 e2 e3 => ?_
  rw [hsl] at e1 ⊢
  exact kk r ho H' _ cells slots ls (j_put0 X hcl hk hlen h1 q4 q2 q3 e1 e3) (by rw [e2]; exact h2) (h3.put e2 e3 hB) h4 h5 h6
end REF2
