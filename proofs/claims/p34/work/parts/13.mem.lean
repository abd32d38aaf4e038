section JME
variable {κ : jCx} {own : String} {cc : ByteArray} {nL : Nat} {ret : Option FieldType} {R : Room} {ρ : Type} {Qf : ρ → State → Prop} {o : Option ρ} {M : jMem} {z : Nat → Prop} {bc bs : Nat} {lv : List (Nat × Value)} {pc : Nat} {st : List Value}
/-- a class of the tables, by its number -/
def jCl (ci : Nat) (C : String) (T : u_T) (N : Nat) (ty : Nat → FieldType) : Prop :=
  vwCl[ci]? = some (C, T, N) ∧ (∀ w ∈ u_ws C T N, w ∈ BW) ∧ (∀ k, k < N → parseFieldDescriptor (T k).2.2.1 = some (ty k)) ∧ (∀ a, a < N → ∀ b, b < N → a ≠ b → (T a).2.1 ≠ (T b).2.1)
theorem jRep.one {D : va_G} {H : Heap} {a : Nat} {e : va_E} (h : jRep D M H) (he : M a = some e) : va_P D vwCl [(a, e)] H := fun k q hk => by
  match k, hk with
  | 0, hk => cases hk; exact h a e he
  | k + 1, hk => simp at hk
theorem j_getf (X : jX κ own cc nL ret) {ci : Nat} (k : Nat) {fs : List Value} {C : String} {T : u_T} {N idx : Nat} {ty : Nat → FieldType} {v : Value} {a : Nat} (hcl : jCl ci C T N ty) (hk : k < N) (hl : Cond.fieldLink own idx (T k).1 (T k).2.1 (T k).2.2.1 ∈ BW) (d : decode cc pc = .ok (.getfield idx, 3)) (hM : M a = some (.inr (ci, fs))) (hv : fs[k]? = some v)
    (kk : J κ nL R Qf o M z bc bs lv (pc + 3) (v :: st)) : J κ nL R Qf o M z bc bs lv pc (.ref a :: st) := fun r ho H locs cells slots ls h1 h2 h3 h4 h5 h6 =>
  va_get X.1 X.2.1 X.hts hcl.2.1 X.ow X.K (h1.one hM) 0 rfl hcl.1 k hk (X.hts _ hl) (fun _ h => h) hv d (kk r ho H locs cells slots ls h1 h2 h3 h4 h5 h6)
theorem j_getN (X : jX κ own cc nL ret) {ci : Nat} (k : Nat) {fs : List Value} {C host : String} {T : u_T} {N idx : Nat} {ty : Nat → FieldType} {v : Value} {a : Nat} (hcl : jCl ci C T N ty) (hk : k < N) (hl : Cond.fieldLinkNest own idx (T k).1 (T k).2.1 (T k).2.2.1 host ∈ tables_1) (d : decode cc pc = .ok (.getfield idx, 3)) (hM : M a = some (.inr (ci, fs))) (hv : fs[k]? = some v)
    (kk : J κ nL R Qf o M z bc bs lv (pc + 3) (v :: st)) : J κ nL R Qf o M z bc bs lv pc (.ref a :: st) := fun r ho H locs cells slots ls h1 h2 h3 h4 h5 h6 =>
  va_getN X.1 X.2.1 X.hts hcl.2.1 X.ow X.K (h1.one hM) 0 rfl hcl.1 k hk (va_Nw.use rfl (X.nest hl rfl)) (fun _ h => h) hv d (kk r ho H locs cells slots ls h1 h2 h3 h4 h5 h6)
theorem j_put0 {H H' : Heap} {ci k : Nat} {fs : List Value} {C : String} {T : u_T} {N : Nat} {ty : Nat → FieldType} {a : Nat} {v : Value} (X : jX κ own cc nL ret) (hcl : jCl ci C T N ty) (hk : k < N) (hlen : k < fs.length) {cell : Cell} (h1 : jRep (kD κ) M H) (hS : ∀ j, j < N → cell.slots[(kD κ).2 ci j]? = some (vp_V fs j)) (q2 : cell.cls = (kD κ).1 ci) (q3 : cell.vm = .none)
    (e1 : H'[a]? = some (cell.setSlot ((kD κ).2 ci k) v)) (e3 : ∀ q : Nat, q ≠ a → H'[q]? = H[q]?) : jRep (kD κ) (jUp M a (.inr (ci, fs.set k v))) H' := by
  have hap := va_apart (own := own) X.hts hcl.2.1 ty hcl.2.2.1 hcl.2.2.2 X.K hcl.1
  exact h1.up ⟨_, hcl.1, t_OB.to (V := updV (vp_V fs) k v) ⟨_, e1, q2, q3, t_set hS hap hk v⟩ (fun j _ => vp_updV_set hlen v j)⟩ e3
theorem j_putf (X : jX κ own cc nL ret) {ci : Nat} (k : Nat) {fs : List Value} {C : String} {T : u_T} {N idx : Nat} {ty : Nat → FieldType} {v : Value} {a : Nat} (hcl : jCl ci C T N ty) (hk : k < N) (hl : Cond.fieldLink own idx (T k).1 (T k).2.1 (T k).2.2.1 ∈ BW) (d : decode cc pc = .ok (.putfield idx, 3)) (hfin : (T k).2.2.2 = false) (hn : narrow (ty k) v = v) (hfit : fits (ty k) v = true) (hB : kB κ ≤ a) (hM : M a = some (.inr (ci, fs))) (hlen : k < fs.length)
    (kk : J κ nL R Qf o (jUp M a (.inr (ci, fs.set k v))) z bc bs lv (pc + 3) st) : J κ nL R Qf o M z bc bs lv pc (v :: .ref a :: st) := fun r ho H locs cells slots ls h1 h2 h3 h4 h5 h6 => by
  obtain ⟨r', h9, cell, q1, q2, q3, q4⟩ := h1 a _ hM
  have hr : r' = (C, T, N) := Option.some.inj (h9.symm.trans hcl.1)
  subst hr
  obtain ⟨hS, hfc, kC, hkC, hkind⟩ := X.K.1 ci _ hcl.1
  obtain ⟨cf, kf, fi, f, hi, hsl⟩ := hS k hk
  have hlay := X.hts _ (hcl.2.1 _ (u_in_lay hk))
  unfold u_lay at hlay
  rw [if_neg (by rw [hfin]; decide)] at hlay
  have hst := (u_facts hfc hkC (u_lays X.hts hcl.2.1 hk) hi).1
  have h6' := u_store hfc hkC hkind hlay hi (hcl.2.2.1 k hk) hn hfit
  refine W.putK X.1 X.2.1 (f := f) ⟨X.ow, X.hts _ hl, ⟨_, _, _, hi⟩, hst⟩ (by rw [q2]; exact h6') q1 q3 (by rw [hsl]; exact k2_hasslot (q4 k hk)) rfl rfl d fun H' e1 e2 e3 => ?_
  rw [hsl] at e1 ⊢
  exact kk r ho H' _ cells slots ls (j_put0 X hcl hk hlen h1 q4 q2 q3 e1 e3) (by rw [e2]; exact h2) (h3.put e2 e3 hB) h4 h5 h6
theorem j_putN (X : jX κ own cc nL ret) {ci : Nat} (k : Nat) {fs : List Value} {C host : String} {T : u_T} {N idx : Nat} {ty : Nat → FieldType} {v : Value} {a : Nat} (hcl : jCl ci C T N ty) (hk : k < N) (hl : Cond.fieldLinkNest own idx (T k).1 (T k).2.1 (T k).2.2.1 host ∈ tables_1) (d : decode cc pc = .ok (.putfield idx, 3)) (hfin : (T k).2.2.2 = false) (hn : narrow (ty k) v = v) (hfit : fits (ty k) v = true) (hB : kB κ ≤ a) (hM : M a = some (.inr (ci, fs))) (hlen : k < fs.length)
    (kk : J κ nL R Qf o (jUp M a (.inr (ci, fs.set k v))) z bc bs lv (pc + 3) st) : J κ nL R Qf o M z bc bs lv pc (v :: .ref a :: st) := fun r ho H locs cells slots ls h1 h2 h3 h4 h5 h6 => by
  obtain ⟨r', h9, cell, q1, q2, q3, q4⟩ := h1 a _ hM
  have hr : r' = (C, T, N) := Option.some.inj (h9.symm.trans hcl.1)
  subst hr
  obtain ⟨hS, hfc, kC, hkC, hkind⟩ := X.K.1 ci _ hcl.1
  obtain ⟨cf, kf, fi, f, hi, hsl⟩ := hS k hk
  have hlay := X.hts _ (hcl.2.1 _ (u_in_lay hk))
  unfold u_lay at hlay
  rw [if_neg (by rw [hfin]; decide)] at hlay
  have hst := (u_facts hfc hkC (u_lays X.hts hcl.2.1 hk) hi).1
  have h6' := u_store hfc hkC hkind hlay hi (hcl.2.2.1 k hk) hn hfit
  refine va_WputK X.1 X.2.1 (f := f) X.ow (va_Nw.use rfl (X.nest hl rfl)) hi hst (by rw [q2]; exact h6') q1 q3 (by rw [hsl]; exact k2_hasslot (q4 k hk)) rfl rfl d fun H' e1 e2 e3 => ?_
  rw [hsl] at e1 ⊢
  exact kk r ho H' _ cells slots ls (j_put0 X hcl hk hlen h1 q4 q2 q3 e1 e3) (by rw [e2]; exact h2) (h3.put e2 e3 hB) h4 h5 h6
/-- a final field, in the constructor -/
theorem j_putF (X : jX κ own cc nL ret) {ci : Nat} (k : Nat) {fs : List Value} {C : String} {T : u_T} {N idx : Nat} {ty : Nat → FieldType} {v : Value} {a : Nat} (hin2 : (kMe κ).name = "<init>") (hcl : jCl ci C T N ty) (hk : k < N) (hl : Cond.fieldLink own idx (T k).1 (T k).2.1 (T k).2.2.1 ∈ BW) (d : decode cc pc = .ok (.putfield idx, 3)) (hfin : (T k).2.2.2 = true) (hdecl : (T k).1 = own) (hn : narrow (ty k) v = v) (hfit : fits (ty k) v = true) (hB : kB κ ≤ a) (hM : M a = some (.inr (ci, fs))) (hlen : k < fs.length)
    (kk : J κ nL R Qf o (jUp M a (.inr (ci, fs.set k v))) z bc bs lv (pc + 3) st) : J κ nL R Qf o M z bc bs lv pc (v :: .ref a :: st) := fun r ho H locs cells slots ls h1 h2 h3 h4 h5 h6 => by
  obtain ⟨r', h9, cell, q1, q2, q3, q4⟩ := h1 a _ hM
  have hr : r' = (C, T, N) := Option.some.inj (h9.symm.trans hcl.1)
  subst hr
  obtain ⟨hS, hfc, kC, hkC, hkind⟩ := X.K.1 ci _ hcl.1
  obtain ⟨cf, kf, fi, f, hi, hsl⟩ := hS k hk
  have hlay := X.hts _ (hcl.2.1 _ (u_in_lay hk))
  unfold u_lay at hlay
  rw [if_pos hfin] at hlay
  have hst := (u_facts hfc hkC (u_lays X.hts hcl.2.1 hk) hi).1
  have hcf : (kM κ).cls = cf := by
    obtain ⟨_, _, c', _, _, _, -, -, hf', -, -, -, hown2, -⟩ := Cond.laysFinal_spec hlay
    have e1 : c' = cf := by have := hi.symm.trans hf'; simp at this; exact this.1.symm
    rw [hdecl] at hown2
    rw [← e1]; exact Option.some.inj (X.ow.symm.trans hown2)
  have h6' := u_fits hfc hkC hkind (Or.inr hlay) hi (hcl.2.2.1 k hk) hn hfit
  refine W.putFinK X.1 X.2.1 X.ow (X.hts _ hl) hi hst hcf hin2 (by rw [q2]; exact h6') q1 q3 (by rw [hsl]; exact k2_hasslot (q4 k hk)) rfl rfl d fun H' e1 e2 e3 => ?_
  rw [hsl] at e1 ⊢
  exact kk r ho H' _ cells slots ls (j_put0 X hcl hk hlen h1 q4 q2 q3 e1 e3) (by rw [e2]; exact h2) (h3.put e2 e3 hB) h4 h5 h6
theorem jTy {D : va_G} {U : State} (h : va_K D vwCl (jTys D) U) (k : Nat) {cA : ClassId} {ty : FieldType} (hk : (jTys D)[k]? = some (cA, ty)) : ArrOfT U cA ty := (h.2 k _ hk).1
theorem j_iald (X : jX κ own cc nL ret) {n a : Nat} {f : Nat → Int32} {i : Int32} (hi : vp_in i n) (d : decode cc pc = .ok (.iaload, 1)) (hM : M a = some (.inl ((kD κ).1 20, n, .inl f)))
    (kk : J κ nL R Qf o M z bc bs lv (pc + 1) (.int (f i.toNatClampNeg) :: st)) : J κ nL R Qf o M z bc bs lv pc (.int i :: .ref a :: st) := fun r ho H locs cells slots ls h1 h2 h3 h4 h5 h6 =>
  va_iald X.1 X.2.1 X.K (h1.one hM) 0 0 rfl rfl hi d (kk r ho H locs cells slots ls h1 h2 h3 h4 h5 h6)
theorem j_cald (X : jX κ own cc nL ret) {n a : Nat} {f : Nat → Int32} {i : Int32} (hi : vp_in i n) (d : decode cc pc = .ok (.caload, 1)) (hM : M a = some (.inl ((kD κ).1 21, n, .inl f)))
    (kk : J κ nL R Qf o M z bc bs lv (pc + 1) (.int (f i.toNatClampNeg) :: st)) : J κ nL R Qf o M z bc bs lv pc (.int i :: .ref a :: st) := fun r ho H locs cells slots ls h1 h2 h3 h4 h5 h6 =>
  va_cald X.1 X.2.1 X.K (h1.one hM) 0 1 rfl rfl hi d (kk r ho H locs cells slots ls h1 h2 h3 h4 h5 h6)
theorem j_aald (X : jX κ own cc nL ret) (q : Nat) {n a b : Nat} {f : Nat → Option Nat} {cA : ClassId} {ty : FieldType} {i : Int32} (ht : (jTys (kD κ))[q]? = some (cA, ty)) (hr : ty.isReference = true) (hi : vp_in i n) (d : decode cc pc = .ok (.aaload, 1)) (hM : M a = some (.inl (cA, n, .inr (.inr (.inr (.inr f)))))) (hf : f i.toNatClampNeg = some b)
    (kk : J κ nL R Qf o M z bc bs lv (pc + 1) (.ref b :: st)) : J κ nL R Qf o M z bc bs lv pc (.int i :: .ref a :: st) := fun r ho H locs cells slots ls h1 h2 h3 h4 h5 h6 => by
  have hlt : i.toNatClampNeg < n := Nat.not_le.mp fun q => hi (Or.inr q)
  have hc := h1 a _ hM
  exact W.aald (v := .ref b) X.1 X.2.1 hc ((jTy X.K q ht) n (fun j => va_rf (f j))) hr (fun q => by cases q) (by show ¬ (i < 0 ∨ (arrV _ _ _).slots.size ≤ _); rw [arrV_size]; exact hi) (by show (arrV _ _ _).slots[_]? = _; rw [arrV_read _ _ hlt, hf]; rfl) rfl rfl d (kk r ho H locs cells slots ls h1 h2 h3 h4 h5 h6)
theorem j_iast (X : jX κ own cc nL ret) {n a : Nat} {f : Nat → Int32} {i x : Int32} (hi : vp_in i n) (d : decode cc pc = .ok (.iastore, 1)) (hB : kB κ ≤ a) (hM : M a = some (.inl ((kD κ).1 20, n, .inl f)))
    (kk : J κ nL R Qf o (jUp M a (.inl ((kD κ).1 20, n, .inl (upd f i.toNatClampNeg x)))) z bc bs lv (pc + 1) st) : J κ nL R Qf o M z bc bs lv pc (.int x :: .int i :: .ref a :: st) := fun r ho H locs cells slots ls h1 h2 h3 h4 h5 h6 => by
  refine W.iast X.1 X.2.1 (h1 a _ hM) ((jTy X.K 0 rfl) n (fun j => .int (f j))) (fun q => by cases q) (by show ¬ (i < 0 ∨ (arrV _ _ _).slots.size ≤ _); rw [arrV_size]; exact hi) rfl rfl d fun H1 e z1 oq => ?_
  refine kk r ho H1 _ cells slots ls (h1.up ?_ oq) (by rw [z1]; exact h2) (h3.put z1 oq hB) h4 h5 h6
  show H1[a]? = some (vp_cell _ _)
  rw [e, vp_cell_i, vp_cell_i, arrV_store]
  congr 2
  funext q
  by_cases hq : q = i.toNatClampNeg
  · subst hq
    simp [updV, upd]
  · simp [updV, upd, hq]
theorem j_cast (X : jX κ own cc nL ret) {n a : Nat} {f : Nat → Int32} {i x : Int32} (hi : vp_in i n) (d : decode cc pc = .ok (.castore, 1)) (hB : kB κ ≤ a) (hM : M a = some (.inl ((kD κ).1 21, n, .inl f)))
    (kk : J κ nL R Qf o (jUp M a (.inl ((kD κ).1 21, n, .inl (upd f i.toNatClampNeg (vp_nar .char x))))) z bc bs lv (pc + 1) st) : J κ nL R Qf o M z bc bs lv pc (.int x :: .int i :: .ref a :: st) := fun r ho H locs cells slots ls h1 h2 h3 h4 h5 h6 => by
  refine W.cast X.1 X.2.1 (h1 a _ hM) ((jTy X.K 1 rfl) n (fun j => .int (f j))) (fun q => by cases q) (by show ¬ (i < 0 ∨ (arrV _ _ _).slots.size ≤ _); rw [arrV_size]; exact hi) rfl rfl d fun H1 e z1 oq => ?_
  refine kk r ho H1 _ cells slots ls (h1.up ?_ oq) (by rw [z1]; exact h2) (h3.put z1 oq hB) h4 h5 h6
  show H1[a]? = some (vp_cell _ _)
  rw [e, vp_cell_i, vp_cell_i, arrV_store]
  congr 2
  funext q
  by_cases hq : q = i.toNatClampNeg
  · subst hq
    simp [updV, upd, vp_nar, narrow]
  · simp [updV, upd, hq]
theorem j_alen (X : jX κ own cc nL ret) (q : Nat) {a : Nat} {x : vp_A} {cA : ClassId} {ty : FieldType} {v : Int32} (ht : (jTys (kD κ))[q]? = some (cA, ty)) (hv : Int32.ofNat x.1 = v) (d : decode cc pc = .ok (.arraylength, 1)) (hM : M a = some (.inl (cA, x)))
    (kk : J κ nL R Qf o M z bc bs lv (pc + 1) (.int v :: st)) : J κ nL R Qf o M z bc bs lv pc (.ref a :: st) := fun r ho H locs cells slots ls h1 h2 h3 h4 h5 h6 =>
  va_alen X.1 X.2.1 X.K (h1.one hM) 0 q rfl ht hv d (kk r ho H locs cells slots ls h1 h2 h3 h4 h5 h6)
end JME
