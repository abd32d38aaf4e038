section CPY
variable {κ : jCx} {own : String} {cc : ByteArray} {nL : Nat} {ret : Option FieldType} {R : Room} {ρ : Type} {Qf : ρ → State → Prop} {o : Option ρ} {M : jMem} {z : Nat → Prop} {bc bs : Nat} {lv : List (Nat × Value)} {pc : Nat} {st : List Value} {lo hi : Nat} {S : jS} {X9 : jMem}
theorem j_lookup (X : jX κ own cc nL ret) {dflt : Int} {ps : Array (Int × Int)} {len : Nat} {x : Int32} {off : Int} (tgt : Nat) (d : decode cc pc = .ok (.lookupswitch dflt ps, len)) (hp : (ps.toList.zip (ps.toList.drop 1)).all (fun (a, next) => a.1 < next.1) = true) (ho : Op.lookupswitch.offset ps.toList dflt x.toInt = off) (ht : (pc : Int) + off = (tgt : Int))
    (k : J κ nL R Qf o M z bc bs lv tgt st) : J κ nL R Qf o M z bc bs lv pc (.int x :: st) := fun r h H locs cells slots ls h1 h2 h3 h4 h5 h6 => lv_lookup X.1 X.2.1 d hp ho ht (k r h H locs cells slots ls h1 h2 h3 h4 h5 h6)
theorem j_table (X : jX κ own cc nL ret) {dflt l9 h9 : Int} {offs : Array Int} {len : Nat} {x : Int32} {off : Int} (tgt : Nat) (d : decode cc pc = .ok (.tableswitch dflt l9 h9 offs, len)) (g1 : ¬ x.toInt < l9) (g2 : ¬ h9 < x.toInt) (ho : offs[(x.toInt - l9).toNat]? = some off) (ht : (pc : Int) + off = (tgt : Int))
    (k : J κ nL R Qf o M z bc bs lv tgt st) : J κ nL R Qf o M z bc bs lv pc (.int x :: st) := fun r h H locs cells slots ls h1 h2 h3 h4 h5 h6 => lv_tableIn X.1 X.2.1 d g1 g2 ho ht (k r h H locs cells slots ls h1 h2 h3 h4 h5 h6)
theorem j_tableD (X : jX κ own cc nL ret) {dflt l9 h9 : Int} {offs : Array Int} {len : Nat} {x : Int32} (tgt : Nat) (d : decode cc pc = .ok (.tableswitch dflt l9 h9 offs, len)) (g1 : x.toInt < l9 ∨ h9 < x.toInt) (ht : (pc : Int) + dflt = (tgt : Int))
    (k : J κ nL R Qf o M z bc bs lv tgt st) : J κ nL R Qf o M z bc bs lv pc (.int x :: st) := fun r h H locs cells slots ls h1 h2 h3 h4 h5 h6 => lv_tableOut X.1 X.2.1 d g1 ht (k r h H locs cells slots ls h1 h2 h3 h4 h5 h6)
theorem j_ne {x k : Int32} {a : Int} (h : ¬ x = k) (hk : k.toInt = a) : x.toInt ≠ a := fun q => h (Int32.toInt_inj.mp (q.trans hk.symm))
/-- System.arraycopy of ints or their like -/
theorem j_copyi (X : jX κ own cc nL ret) {idx : Nat} (t0 t1 : Nat) {a0 a : Nat} {c0 c1 : ClassId} {n0 n1 : Nat} {f g : Nat → Int32} {ty : FieldType} {sp dp n : Int32} (wl : Cond.methodLink own idx arraycopyName ∈ BW) (wn : Cond.native arraycopyName ∈ BW) (ws : Cond.static arraycopyName ∈ BW) (wi : Cond.initialized "java/lang/System" ∈ BW)
    (ht0 : (jTys (kD κ))[t0]? = some (c0, ty)) (ht1 : (jTys (kD κ))[t1]? = some (c1, ty)) (hprim : refKind ty = false) (g1 : ¬ sp < 0) (g2 : ¬ dp < 0) (g3 : ¬ n < 0) (g4 : sp.toNatClampNeg + n.toNatClampNeg ≤ n0) (g5 : dp.toNatClampNeg + n.toNatClampNeg ≤ n1) (hfit : ∀ i, i < n.toNatClampNeg → fits ty (.int (f (sp.toNatClampNeg + i))) = true)
    (hR : 1 ≤ R.frames ∧ (st.map fun v => v.category).sum + (nativeFrameWords "java/lang/System" "arraycopy" 5 + 11) ≤ R.locals) (d : decode cc pc = .ok (.invokestatic idx, 3)) (hB : kB κ ≤ a) (hM0 : M a0 = some (.inl (c0, n0, .inl f))) (hM1 : M a = some (.inl (c1, n1, .inl g)))
    (kk : J κ nL R Qf o (jUp M a (.inl (c1, n1, .inl (va_cpy f g sp.toNatClampNeg dp.toNatClampNeg n.toNatClampNeg)))) z bc bs lv (pc + 3) st) : J κ nL R Qf o M z bc bs lv pc (.int n :: .int dp :: .ref a :: .int sp :: .ref a0 :: st) := fun r ho H locs cells slots ls h1 h2 h3 h4 h5 h6 => by
  have nn : ∀ z : Int32, ¬ z < 0 → z.toInt = (z.toNatClampNeg : Int) := by
    intro z hz
    have hz0 : (0 : Int) ≤ z.toInt := by
      have := Int32.not_lt.mp hz
      simpa using Int32.le_iff_toInt_le.mp this
    show z.toInt = ((z.toInt.toNat : Nat) : Int)
    omega
  intro T hT Xs
  have hc0 : H[a0]? = some (vp_cell c0 (n0, .inl f)) := h1 a0 _ hM0
  have hc1 : H[a]? = some (vp_cell c1 (n1, .inl g)) := h1 a _ hM1
  obtain ⟨-, k0, hk0, cm0, hkk0⟩ := (X.K.2 t0 _ ht0).1 n0 (fun j => .int (f j))
  obtain ⟨-, k1, hk1, cm1, hkk1⟩ := (X.K.2 t1 _ ht1).1 n1 (fun j => .int (g j))
  obtain ⟨vm', X', step⟩ := Xs.arraycopy X.1 X.ow (X.hts _ wl) (X.hts _ wn) (X.hts _ ws) (X.hts _ wi) (src := a0) (dst := a) (cs := vp_cell c0 (n0, .inl f)) (cd := vp_cell c1 (n1, .inl g)) (srcPos := sp) (destPos := dp) (n := n) (by rw [hT]; exact hc0) (by rw [hT]; exact hc1)
    (fun _ h => by cases h) (fun _ h => by cases h) (fun h => by cases h) (fun h => by cases h) hk0 hk1 hkk0 hkk1 (by simp [hprim]) g1 g2 g3
    (by rw [nn sp g1, nn n g3]; show ¬ _ > ((arrV c0 n0 (fun j => .int (f j))).slots.size : Int); rw [arrV_size]; omega)
    (by rw [nn dp g2, nn n g3]; show ¬ _ > ((arrV c1 n1 (fun j => .int (g j))).slots.size : Int); rw [arrV_size]; omega)
    (fun vm₁ _ i hi => by
      have e : (vp_cell c0 (n0, .inl f)).slots.getD (sp.toNatClampNeg + i) .null = .int (f (sp.toNatClampNeg + i)) := by
        show (arrV c0 n0 (fun j => .int (f j))).slots.getD _ _ = _
        rw [Array.getD_eq_getD_getElem?, arrV_read _ _ (by omega)]
        rfl
      refine ⟨?_, ?_⟩
      · rw [e]
        exact hfit i hi
      · rw [e]
        exact trivial)
    (g := F0 (kM κ) pc ls (.int n :: .int dp :: .ref a :: .int sp :: .ref a0 :: st)) rfl (by show ls.size = _; rw [X.ml]; exact h6.1) (rest := st) rfl (by rw [X.2.1]; exact d) hR.1 (by show 2 * 0 + _ + _ ≤ _; omega)
  have e1 : copied (vp_cell c0 (n0, .inl f)) (vp_cell c1 (n1, .inl g)) sp dp n = vp_cell c1 (n1, .inl (va_cpy f g sp.toNatClampNeg dp.toNatClampNeg n.toNatClampNeg)) := va_copied (fun z => .int z) c0 c1 f g g4
  rw [e1] at X' step
  have hl : a < H.size := (Array.getElem?_eq_some_iff.mp hc1).1
  have hheap : ((T.setVm vm').setCell a (vp_cell c1 (n1, .inl (va_cpy f g sp.toNatClampNeg dp.toNatClampNeg n.toNatClampNeg)))).heap = H.setIfInBounds a (vp_cell c1 (n1, .inl (va_cpy f g sp.toNatClampNeg dp.toNatClampNeg n.toNatClampNeg))) := by rw [← hT]; rfl
  have oq : ∀ q : Nat, q ≠ a → (H.setIfInBounds a (vp_cell c1 (n1, .inl (va_cpy f g sp.toNatClampNeg dp.toNatClampNeg n.toNatClampNeg))))[q]? = H[q]? := fun q hq => by simp [Array.getElem?_setIfInBounds, Ne.symm hq]
  obtain ⟨t, a1, b1⟩ := kk r ho _ _ cells slots ls (h1.up (show (H.setIfInBounds a _)[a]? = some _ by simp [Array.getElem?_setIfInBounds, hl]) oq) (by simpa using h2) ⟨by simp; exact h3.1, fun q q1 q2 => by
      rw [oq q (fun e => q2 (by rw [e]; exact hB))]
      exact h3.2.1 q q1 q2, fun q hq => by
      rcases List.mem_append.mp hq with h | h
      · exact h3.2.2 q h
      · obtain ⟨z, -, hz⟩ := List.mem_map.mp h
        rw [← hz]
        exact hB⟩ h4 h5 h6 _ hheap X'
  exact ⟨t, step t a1, b1⟩
def jrow (S : jS) (k : Nat) (row : Nat → Int32) : jS := fun q => if q = k then row else S q
theorem memG_row {lo hi k κ' : Nat} {D : va_G} {B : Nat} {S : jS} {X : jMem} (h : kIn lo hi k κ') {row : Nat → Int32} {e : va_E} (he : cellK D B k κ' row = e) : jUp (memG lo hi D B S X) (B + k) e = memG lo hi D B (jrow S k row) X := by
  obtain ⟨h1, h2, h3, h4⟩ := h
  funext a
  unfold jUp memG
  by_cases ha : a = B + k
  · subst ha
    rw [if_pos rfl, Nat.add_sub_cancel_left, if_pos ⟨by omega, by omega, by rw [h3]; exact h4⟩, h3, ← he]
    unfold jrow
    rw [if_pos rfl]
  · rw [if_neg ha]
    by_cases hc : B + lo ≤ a ∧ a < B + hi ∧ kd (a - B) ≠ 0
    · rw [if_pos hc, if_pos hc]
      unfold jrow
      rw [if_neg (by omega)]
    · rw [if_neg hc, if_neg hc]
/-- what the rows that are copied must hold -/
def cpOk (f : Nat → Int32) (sp dp n : Int32) (n0 n1 : Nat) (ty : FieldType) : Bool :=
  !decide (sp < 0) && !decide (dp < 0) && !decide (n < 0) && decide (sp.toNatClampNeg + n.toNatClampNeg ≤ n0) && decide (dp.toNatClampNeg + n.toNatClampNeg ≤ n1) && (List.range n.toNatClampNeg).all (fun i => fits ty (.int (f (sp.toNatClampNeg + i))))
theorem g_copyI (X : jX κ own cc nL ret) {idx k0 k1 : Nat} (n0 n1 : Nat) {sp dp n : Int32} {f : jS → Option ρ} (hk0 : kIn lo hi k0 (1000 + n0)) (hk1 : kIn lo hi k1 (1000 + n1)) (hn : n0 < 1000 ∧ n1 < 1000) (wl : Cond.methodLink own idx arraycopyName ∈ BW) (wn : Cond.native arraycopyName ∈ BW) (ws : Cond.static arraycopyName ∈ BW) (wi : Cond.initialized "java/lang/System" ∈ BW)
    (hR : 1 ≤ R.frames ∧ (st.map fun v => v.category).sum + (nativeFrameWords "java/lang/System" "arraycopy" 5 + 11) ≤ R.locals) (d : decode cc pc = .ok (.invokestatic idx, 3))
    (kk : ∀ S1, J κ nL R Qf (f S1) (memG lo hi (kD κ) (kB κ) S1 X9) z bc bs lv (pc + 3) st) : J κ nL R Qf (chk (cpOk (S k0) sp dp n n0 n1 .int) (letE (jrow S k1 (va_cpy (S k0) (S k1) sp.toNatClampNeg dp.toNatClampNeg n.toNatClampNeg)) f)) (memG lo hi (kD κ) (kB κ) S X9) z bc bs lv pc (.int n :: .int dp :: .ref (kB κ + k1) :: .int sp :: .ref (kB κ + k0) :: st) := j_chk fun h => by
  unfold cpOk at h
  simp only [Bool.and_eq_true, Bool.not_eq_true', decide_eq_false_iff_not, decide_eq_true_eq, List.all_eq_true, List.mem_range] at h
  exact j_copyi X 0 0 wl wn ws wi rfl rfl rfl h.1.1.1.1.1 h.1.1.1.1.2 h.1.1.1.2 h.1.1.2 h.1.2 h.2 hR d (Nat.le_add_right _ _) ((memG_at hk0).trans (congrArg some (cellK_i hn.1 _))) ((memG_at hk1).trans (congrArg some (cellK_i hn.2 _))) (by rw [memG_row hk1 (cellK_i hn.2 _)]; exact kk _)
theorem g_copyC (X : jX κ own cc nL ret) {idx k0 k1 : Nat} (n0 n1 : Nat) {sp dp n : Int32} {f : jS → Option ρ} (hk0 : kIn lo hi k0 (2000 + n0)) (hk1 : kIn lo hi k1 (2000 + n1)) (hn : n0 < 1000 ∧ n1 < 1000) (wl : Cond.methodLink own idx arraycopyName ∈ BW) (wn : Cond.native arraycopyName ∈ BW) (ws : Cond.static arraycopyName ∈ BW) (wi : Cond.initialized "java/lang/System" ∈ BW)
    (hR : 1 ≤ R.frames ∧ (st.map fun v => v.category).sum + (nativeFrameWords "java/lang/System" "arraycopy" 5 + 11) ≤ R.locals) (d : decode cc pc = .ok (.invokestatic idx, 3))
    (kk : ∀ S1, J κ nL R Qf (f S1) (memG lo hi (kD κ) (kB κ) S1 X9) z bc bs lv (pc + 3) st) : J κ nL R Qf (chk (cpOk (S k0) sp dp n n0 n1 .char) (letE (jrow S k1 (va_cpy (S k0) (S k1) sp.toNatClampNeg dp.toNatClampNeg n.toNatClampNeg)) f)) (memG lo hi (kD κ) (kB κ) S X9) z bc bs lv pc (.int n :: .int dp :: .ref (kB κ + k1) :: .int sp :: .ref (kB κ + k0) :: st) := j_chk fun h => by
  unfold cpOk at h
  simp only [Bool.and_eq_true, Bool.not_eq_true', decide_eq_false_iff_not, decide_eq_true_eq, List.all_eq_true, List.mem_range] at h
  exact j_copyi X 1 1 wl wn ws wi rfl rfl rfl h.1.1.1.1.1 h.1.1.1.1.2 h.1.1.1.2 h.1.1.2 h.1.2 h.2 hR d (Nat.le_add_right _ _) ((memG_at hk0).trans (congrArg some (cellK_c hn.1 _))) ((memG_at hk1).trans (congrArg some (cellK_c hn.2 _))) (by rw [memG_row hk1 (cellK_c hn.2 _)]; exact kk _)
/-- an entry of the log, by its five ints -/
def entC (e : Nat → Int32) : va_E := .inr (2, [.int (e 0), .int (e 1), .int (e 2), .int (e 3), .int (e 4)])
end CPY
