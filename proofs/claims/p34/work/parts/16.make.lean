section JMK
variable {κ : jCx} {own : String} {cc : ByteArray} {nL : Nat} {ret : Option FieldType} {R : Room} {ρ : Type} {Qf : ρ → State → Prop} {o : Option ρ} {M : jMem} {z : Nat → Prop} {bc bs : Nat} {lv : List (Nat × Value)} {pc : Nat} {st : List Value}
/-- the heap's size gets a name -/
theorem j_size (X : jX κ own cc nL ret) (k : ∀ h : Nat, z h → (∀ a e, M a = some e → a < h) → kB κ ≤ h → J κ nL R Qf o M (fun n => n = h) bc bs lv pc st) : J κ nL R Qf o M z bc bs lv pc st := fun r ho H locs cells slots ls h1 h2 h3 h4 h5 h6 =>
  k H.size h2 (fun _ _ he => h1.lt he) (Nat.le_trans X.k.2.2.2.2.2.2 h3.1) r ho H locs cells slots ls h1 rfl h3 h4 h5 h6
theorem j_zle {z1 : Nat → Prop} (h : ∀ n, z n → z1 n) (k : J κ nL R Qf o M z1 bc bs lv pc st) : J κ nL R Qf o M z bc bs lv pc st := fun r ho H locs cells slots ls h1 h2 => k r ho H locs cells slots ls h1 (h _ h2)
theorem j_newa0 (X : jX κ own cc nL ret) {atype : ArrayType} {ty : FieldType} {cA : ClassId} {N h bc1 bs1 : Nat} {a0 : vp_A} {n : Int32} (hty : newarray.typeOf atype = ty) (hra : (kS κ).vm.findClass ("[" ++ ty.toString) = some cA) (ha : vp_cell cA a0 = arrV cA N (fun _ => defaultValue ty)) (hn : ¬ n < 0) (hN : n.toNatClampNeg = N) (hbytes : N * componentBytes ty ≤ 536870912) (har : Cond.arrayClass ty ∈ BW) (d : decode cc pc = .ok (.newarray atype, 2)) (hb : 1 + bc1 ≤ bc ∧ N + bs1 ≤ bs)
    (k : J κ nL R Qf o (jUp M h (.inl (cA, a0))) (fun n => n = h + 1) bc1 bs1 lv (pc + 2) (.ref h :: st)) : J κ nL R Qf o M (fun n => n = h) bc bs lv pc (.int n :: st) := fun r ho H locs cells slots ls h1 h2 h3 h4 h5 h6 => by
  subst hty
  subst h2
  refine va_newaK X.1 X.2.1 (X.hts _ har) rfl d rfl hn hN hbytes (by omega) (by omega) rfl fun H1 cA1 e1 z1 o1 hAr hNm => ?_
  have hc : cA1 = cA := Option.some.inj (hNm.symm.trans hra)
  subst hc
  exact k r ho H1 locs (cells + 1) (slots + N) ls (j_fresh h1 o1 (by show H1[H.size]? = some (vp_cell _ _); rw [ha]; exact e1)) z1 ⟨Nat.le_trans h3.1 (by omega), fun x g1 g2 => (o1 x (Nat.lt_of_lt_of_le g1 h3.1)).trans (h3.2.1 x g1 g2), h3.2.2⟩ (by omega) (by omega) h6
theorem j_newI (X : jX κ own cc nL ret) {N h : Nat} (bc1 bs1 : Nat) {n : Int32} (hn : ¬ n < 0) (hN : n.toNatClampNeg = N) (hbytes : N ≤ 100000) (har : Cond.arrayClass .int ∈ BW) (d : decode cc pc = .ok (.newarray .int, 2)) (hb : 1 + bc1 ≤ bc ∧ N + bs1 ≤ bs)
    (k : J κ nL R Qf o (jUp M h (.inl ((kD κ).1 20, N, .inl (fun _ => 0)))) (fun n => n = h + 1) bc1 bs1 lv (pc + 2) (.ref h :: st)) : J κ nL R Qf o M (fun n => n = h) bc bs lv pc (.int n :: st) :=
  j_newa0 X (ty := .int) rfl (X.K.2 0 _ rfl).2 rfl hn hN (by show N * 4 ≤ _; omega) har d hb k
theorem j_newC (X : jX κ own cc nL ret) {N h : Nat} (bc1 bs1 : Nat) {n : Int32} (hn : ¬ n < 0) (hN : n.toNatClampNeg = N) (hbytes : N ≤ 100000) (har : Cond.arrayClass .char ∈ BW) (d : decode cc pc = .ok (.newarray .char, 2)) (hb : 1 + bc1 ≤ bc ∧ N + bs1 ≤ bs)
    (k : J κ nL R Qf o (jUp M h (.inl ((kD κ).1 21, N, .inl (fun _ => 0)))) (fun n => n = h + 1) bc1 bs1 lv (pc + 2) (.ref h :: st)) : J κ nL R Qf o M (fun n => n = h) bc bs lv pc (.int n :: st) :=
  j_newa0 X (ty := .char) rfl (X.K.2 1 _ rfl).2 rfl hn hN (by show N * 2 ≤ _; omega) har d hb k
/-- anewarray -/
theorem j_anew (X : jX κ own cc nL ret) (q : Nat) {C : String} {cA0 : ClassId} {N idx h : Nat} (bc1 bs1 : Nat) {n : Int32} (ht : (jTys (kD κ))[q]? = some (cA0, .object C)) (hl : Cond.classLink own idx C ∈ BW) (hov : Cond.arrayOver (.object C) ∈ tables_1) (hn : ¬ n < 0) (hN : n.toNatClampNeg = N) (hbytes : N ≤ 100000) (d : decode cc pc = .ok (.anewarray idx, 3)) (hb : 1 + bc1 ≤ bc ∧ N + bs1 ≤ bs)
    (k : J κ nL R Qf o (jUp M h (.inl (cA0, N, .inr (.inr (.inr (.inr (fun _ => none))))))) (fun n => n = h + 1) bc1 bs1 lv (pc + 3) (.ref h :: st)) : J κ nL R Qf o M (fun n => n = h) bc bs lv pc (.int n :: st) := fun r ho H locs cells slots ls h1 h2 h3 h4 h5 h6 => by
  subst hN
  subst h2
  refine W.anew X.1 X.2.1 X.ow (X.hts _ hl) (va_AO.use (X.nest hov rfl)) rfl d rfl hn (by omega) (by omega) (by omega) fun cA kA comp f1 f2 f3 f4 => ?_
  generalize hH1 : H.push ({ cls := cA, slots := Array.replicate n.toNatClampNeg .null, vm := .none } : Cell) = H1
  have z1 : H1.size = H.size + 1 := by rw [← hH1, Array.size_push]
  have e1 : H1[H.size]? = some (arrV cA n.toNatClampNeg (fun _ => .null)) := by rw [← hH1, Array.getElem?_push_size, ← arrV_new]
  have o1 : ∀ q : Nat, q < H.size → H1[q]? = H[q]? := fun q hq => by rw [← hH1, Array.getElem?_push, if_neg (Nat.ne_of_lt hq)]
  obtain ⟨kA', comp', -, -, -, g4⟩ := (X.K.2 q _ ht).2
  have hc : cA = cA0 := Option.some.inj (f1.symm.trans g4)
  subst hc
  exact k r ho H1 locs (cells + 1) (slots + n.toNatClampNeg) ls (j_fresh h1 o1 (by show H1[H.size]? = some (vp_cell _ _); rw [vp_cell_q]; exact e1)) z1 ⟨Nat.le_trans h3.1 (by omega), fun x g1 g2 => (o1 x (Nat.lt_of_lt_of_le g1 h3.1)).trans (h3.2.1 x g1 g2), h3.2.2⟩ (by omega) (by omega) h6
/-- aastore of an object of the array's own class -/
theorem j_aast (X : jX κ own cc nL ret) (q : Nat) {a n v ci N : Nat} {C : String} {T : u_T} {ty : Nat → FieldType} {cA : ClassId} {f : Nat → Option Nat} {vs : List Value} {i : Int32} (hcl : jCl ci C T N ty) (ht : (jTys (kD κ))[q]? = some (cA, .object C)) (hi : vp_in i n) (d : decode cc pc = .ok (.aastore, 1)) (hB : kB κ ≤ a) (hM : M a = some (.inl (cA, n, .inr (.inr (.inr (.inr f)))))) (hv : M v = some (.inr (ci, vs)))
    (kk : J κ nL R Qf o (jUp M a (.inl (cA, n, .inr (.inr (.inr (.inr (va_up f i.toNatClampNeg (some v)))))))) z bc bs lv (pc + 1) st) : J κ nL R Qf o M z bc bs lv pc (.ref v :: .int i :: .ref a :: st) := fun r ho H locs cells slots ls h1 h2 h3 h4 h5 h6 => by
  have hlt : i.toNatClampNeg < n := Nat.not_le.mp fun q => hi (Or.inr q)
  have h0 : ¬ i < 0 := fun q => hi (Or.inl q)
  obtain ⟨r', hr', cellV, g1, g2, g3, -⟩ := h1 v _ hv
  have hcls := (X.K.1 ci _ hcl.1).2
  obtain ⟨kA, comp, k1, k2, k3, -⟩ := (X.K.2 q _ ht).2
  have hcomp : comp = (kD κ).1 ci := Option.some.inj (k3.symm.trans hcls.1)
  subst hcomp
  obtain ⟨kC, hkC, -⟩ := hcls.2
  refine W.aast X.1 X.2.1 (h1 a _ hM) (fun q h => by cases h) (fun h => by cases h) k1 k2 rfl hkC ⟨h0, by show _ < (arrV _ _ _).slots.size; rw [arrV_size]; exact hlt⟩ g1 (fun q h => by rw [g3] at h; cases h) (by rw [g2]; exact hkC) (by rw [g2]; exact va_assign hcls) rfl rfl d fun H1 e z1 oq => ?_
  refine kk r ho H1 _ cells slots ls (h1.up ?_ oq) (by rw [z1]; exact h2) (h3.put z1 oq hB) h4 h5 h6
  show H1[a]? = some (vp_cell _ _)
  rw [e]
  rw [vp_cell_q, vp_cell_q, arrV_store]
  congr 2
  funext q
  by_cases hq : q = i.toNatClampNeg
  · subst hq
    simp [updV, va_up, va_rf]
  · simp [updV, va_up, hq]
/-- new int[N][K]: the outer array, the rows right behind it -/
def jRows (M : jMem) (h : Nat) (N : Nat) (e : va_E) : jMem := fun q => if h ≤ q ∧ q < h + N then some e else M q
theorem j_outer (c : ClassId) (N h0 : Nat) : ∀ i : Nat, Jvm.Free.Multi.outerC c N h0 i = arrV c N (fun j => va_rf (if j < i then some (h0 + 1 + j) else none))
  | 0 => by
    show ({ cls := c, slots := Array.replicate N .null, vm := .none } : Cell) = _
    rw [arrV_new]
    refine congrArg (arrV c N) (funext fun j => ?_)
    simp [va_rf]
  | i + 1 => by
    show (Jvm.Free.Multi.outerC c N h0 i).setSlot i (.ref (h0 + 1 + i)) = _
    rw [j_outer c N h0 i, arrV_store]
    refine congrArg (arrV c N) (funext fun j => ?_)
    by_cases e : j = i
    · subst e
      simp [updV, va_rf]
    · by_cases h : j < i
      · simp [updV, e, h, Nat.lt_succ_of_lt h]
      · simp [updV, e, h, show ¬ j < i + 1 by omega]
theorem j_mna (X : jX κ own cc nL ret) {N K idx h : Nat} (bc1 bs1 : Nat) {n k : Int32} (hl : Cond.classLink own idx "[[I" ∈ BW) (hov : Cond.arrayOver (.array .int) ∈ tables_1) (har : Cond.arrayClass .int ∈ BW) (hn : ¬ n < 0) (hk : ¬ k < 0) (hN : n.toNatClampNeg = N) (hK : k.toNatClampNeg = K) (hbN : N ≤ 100000 ∧ K ≤ 100000) (d : decode cc pc = .ok (.multianewarray idx 2, 4)) (hb : 1 + N + bc1 ≤ bc ∧ N + N * K + bs1 ≤ bs)
    (kk : J κ nL R Qf o (jUp (jRows M (h + 1) N (.inl ((kD κ).1 20, K, .inl (fun _ => 0)))) h (.inl ((kD κ).1 24, N, .inr (.inr (.inr (.inr (fun i => if i < N then some (h + 1 + i) else none))))))) (fun n => n = h + 1 + N) bc1 bs1 lv (pc + 4) (.ref h :: st)) : J κ nL R Qf o M (fun n => n = h) bc bs lv pc (.int k :: .int n :: st) := fun r ho H locs cells slots ls h1 h2 h3 h4 h5 h6 => by
  subst hN
  subst hK
  subst h2
  obtain ⟨hb1, hb2⟩ := hb
  intro T hT Xs
  obtain ⟨vm₁, cA, comp, -, fA, fC, hO, -, X', step⟩ := Xs.multianewarray2F X.1 (ty := .int) X.ow (X.hts _ hl) (j_nestA rfl (X.nest hov rfl)) (X.hts _ har) (g := F0 (kM κ) pc ls (.int k :: .int n :: st)) rfl (by rw [X.2.1]; exact d) rfl hn hk (by omega) (by show _ * 4 ≤ _; omega) (by omega) rfl rfl (by omega) (by omega)
  have ecy : (kD κ).1 20 = comp := Option.some.inj ((X.K.2 0 _ rfl).2.symm.trans fC)
  have ecA : cA = (kD κ).1 24 := Option.some.inj (fA.symm.trans (X.K.2 4 _ rfl).2)
  subst ecA
  subst ecy
  generalize hF : Jvm.Free.Multi.fill (T.setVm vm₁) ((kD κ).1 24) ((kD κ).1 20) n.toNatClampNeg k.toNatClampNeg (defaultValue .int) n.toNatClampNeg = F at X' step
  have hTh : (T.setVm vm₁).heap = H := hT
  obtain ⟨f1, f2, -, -⟩ := Jvm.Free.Multi.fill_facts (T.setVm vm₁) ((kD κ).1 24) ((kD κ).1 20) n.toNatClampNeg k.toNatClampNeg (defaultValue .int) n.toNatClampNeg
  rw [hF, hTh] at f1 f2
  have hold : ∀ x : Nat, x < H.size → F.heap[x]? = H[x]? := fun x hx => by
    have := Jvm.Free.Multi.fill_old (T.setVm vm₁) ((kD κ).1 24) ((kD κ).1 20) n.toNatClampNeg k.toNatClampNeg (defaultValue .int) (a := x) (by rw [hTh]; exact hx) n.toNatClampNeg
    rw [hF, hTh] at this
    exact this
  have hrow : ∀ j : Nat, j < n.toNatClampNeg → F.heap[H.size + 1 + j]? = some (vp_cell ((kD κ).1 20) (k.toNatClampNeg, .inl (fun _ => 0))) := fun j hj => by
    have := Jvm.Free.Multi.fill_inner (T.setVm vm₁) ((kD κ).1 24) ((kD κ).1 20) n.toNatClampNeg k.toNatClampNeg (defaultValue .int) n.toNatClampNeg j hj
    rw [hF, hTh] at this
    rw [this, vp_cell_i, ← arrV_new]
    rfl
  rw [j_outer] at f2
  have hrep : jRep (kD κ) (jUp (jRows M (H.size + 1) n.toNatClampNeg (.inl ((kD κ).1 20, k.toNatClampNeg, .inl (fun _ => 0)))) H.size (.inl ((kD κ).1 24, n.toNatClampNeg, .inr (.inr (.inr (.inr (fun i => if i < n.toNatClampNeg then some (H.size + 1 + i) else none))))))) F.heap := by
    intro q e' hq
    unfold jUp at hq
    by_cases hqa : q = H.size
    · subst hqa
      rw [if_pos rfl] at hq
      cases hq
      exact f2
    · rw [if_neg hqa] at hq
      unfold jRows at hq
      by_cases hqr : H.size + 1 ≤ q ∧ q < H.size + 1 + n.toNatClampNeg
      · rw [if_pos hqr] at hq
        cases hq
        have := hrow (q - (H.size + 1)) (by omega)
        rw [show H.size + 1 + (q - (H.size + 1)) = q by omega] at this
        exact this
      · rw [if_neg hqr] at hq
        exact (h1 q e' hq).kept (hold q (h1.lt hq))
  have hTz : T.heap.size = H.size := by rw [hT]
  rw [hTz] at step
  obtain ⟨t, a1, b1⟩ := kk r ho F.heap locs (cells + 1 + n.toNatClampNeg) (slots + n.toNatClampNeg + n.toNatClampNeg * k.toNatClampNeg) ls hrep f1 ⟨Nat.le_trans h3.1 (by omega), fun x g1 g2 => (hold x (Nat.lt_of_lt_of_le g1 h3.1)).trans (h3.2.1 x g1 g2), h3.2.2⟩ (by omega) (by omega) h6 F rfl X'
  exact ⟨t, step t a1, b1⟩
end JMK
