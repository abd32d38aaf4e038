section KNO
theorem kn_of {s : State} {A : Array Value} (hB : ∀ w ∈ BW, w.before A s = true) {ci : Nat} {C : String} {T : u_T} {N : Nat} {ty : Nat → FieldType} (h : jCl ci C T N ty) (hi : Cond.instantiable C N ∈ BW) : ∃ (cC : ClassId) (iS : Nat → Nat), ∀ q, vwCl[ci]? = some q → u_Kn s q.1 q.2.1 q.2.2 cC iS := by
  obtain ⟨c, i, hk⟩ := u_known hB h.2.1 (hB _ hi)
  exact ⟨c, i, fun q hq => by
    cases h.1.symm.trans hq
    exact hk⟩
theorem kn_all {s : State} {A : Array Value} (hB : ∀ w ∈ BW, w.before A s = true) : ∀ ci : Nat, ∃ (p : ClassId × (Nat → Nat)), ∀ q, vwCl[ci]? = some q → u_Kn s q.1 q.2.1 q.2.2 p.1 p.2 := by
  have go : ∀ {ci : Nat}, (∃ (cC : ClassId) (iS : Nat → Nat), ∀ q, vwCl[ci]? = some q → u_Kn s q.1 q.2.1 q.2.2 cC iS) → ∃ (p : ClassId × (Nat → Nat)), ∀ q, vwCl[ci]? = some q → u_Kn s q.1 q.2.1 q.2.2 p.1 p.2 := fun ⟨a, b, h⟩ => ⟨(a, b), h⟩
  intro ci
  match ci with
  | 0 => exact go (kn_of hB cf_Jx4a65c it_Jx4a65c)
  | 1 => exact go (kn_of hB cf_X0 it_X0)
  | 2 => exact go (kn_of hB cf_X1 it_X1)
  | 3 => exact go (kn_of hB cf_X2 it_X2)
  | 4 => exact go (kn_of hB cf_X3 it_X3)
  | 5 => exact go (kn_of hB cf_X4 it_X4)
  | 6 => exact go (kn_of hB cf_X5 it_X5)
  | 7 => exact go (kn_of hB cf_X6 it_X6)
  | 8 => exact go (kn_of hB cf_X7 it_X7)
  | 9 => exact go (kn_of hB cf_X8 it_X8)
  | 10 => exact go (kn_of hB cf_X9 it_X9)
  | 11 => exact go (kn_of hB cf_X10 it_X10)
  | n + 12 => exact ⟨(0, fun _ => 0), fun q hq => by simp at hq⟩
theorem ar_prim {s : State} {A : Array Value} {ty : FieldType} (h : (Cond.arrayClass ty).before A s = true) (hp : ∀ c, s.vm.findClass ("[" ++ ty.toString) = some c → va_RA s c ty) : ∃ c, ArrOfT s c ty ∧ va_RA s c ty := by
  obtain ⟨c, k, comp, h1, h2, h3⟩ := Cond.arrayClass_spec h
  exact ⟨c, fun n z => ⟨fun k h => (nomatch h), k, h2, comp, h3⟩, hp c h1⟩
theorem ar_obj {s : State} {A : Array Value} {C : String} (h : (Cond.arrayOver (.object C)).before A s = true) : ∃ c, ArrOfT s c (.object C) ∧ va_RA s c (.object C) := by
  obtain ⟨comp, c, k, h1, -, h2, h3, h4⟩ := Cond.arrayOver_spec h
  exact ⟨c, fun n z => ⟨fun k h => (nomatch h), k, h2, comp, h3⟩, k, comp, h2, h3, h1, h4⟩
theorem ar_int2 {s : State} {A : Array Value} (h : (Cond.arrayOver (.array .int)).before A s = true) : ∃ c, ArrOfT s c (.array .int) ∧ va_RA s c (.array .int) := by
  obtain ⟨comp, c, k, h1, -, h2, h3, h4⟩ := jAO_spec h
  exact ⟨c, fun n z => ⟨fun k h => (nomatch h), k, h2, comp, h3⟩, h4⟩
theorem nest_of {w : Cond} {A : Array Value} {U : State} (hn : jNest w = true) (h : w.before A U = true) : w.before #[] U = true := by
  cases w with
  | methodLinkNest a i x h9 => exact va_Nw.of rfl h
  | fieldLinkNest a i b n d h9 => exact va_Nw.of rfl h
  | castable C T => exact va_Nw.of rfl h
  | declares x => exact va_Nw.of rfl h
  | arrayOver t => exact h
  | _ => exact nomatch (show false = true from hn)
theorem str_of {s : State} {A : Array Value} {own tx : String} {k : Nat} (h : (Cond.stringRef own k tx).before A s = true) : ∃ a, vk_R own k tx a s := by
  have hcur : ∃ cur, s.vm.findClass own = some cur := by
    have h1 := h
    simp only [Cond.before, Cond.holds, Cond.value] at h1
    cases hc : s.vm.findClass own with
    | none => simp [hc] at h1
    | some c => exact ⟨c, rfl⟩
  obtain ⟨cur, hcur⟩ := hcur
  obtain ⟨k9, cf, j, a, -, -, -, -, -, hev⟩ := Cond.stringRef_spec hcur h
  exact ⟨a, vk_R.of h hev⟩
theorem len0 {s : State} {A : Array Value} {t : Term} (h : (Cond.eq (.length t) (.int 0)).before A s = true) : ∃ a cell, t.eval A s none [] s = some (.ref a) ∧ s.arrayAt? a = some cell ∧ cell.slots.size = 0 := by
  cases hv : (Term.length t).eval A s none [] s with
  | none => simp [Cond.before, Cond.holds, Cond.value, hv] at h
  | some v =>
    have h9 := hv
    simp only [Term.eval, Option.bind_eq_bind] at h9
    cases ht : t.eval A s none [] s with
    | none => simp [ht] at h9
    | some x =>
      cases x <;> simp [ht] at h9
      case ref a =>
        obtain ⟨cell, hcell, h9⟩ := Option.bind_eq_some_iff.mp h9
        by_cases hn : cell.slots.size < 2147483648
        · rw [if_pos hn] at h9
          cases h9
          have hz := Cond.eq_ints hv (show (Term.int 0).eval A s none [] s = some (.int 0) from rfl)
          have h0 : cell.slots.size.toInt32 = 0 := by simpa [Cond.before, Cond.holds, hz] using h
          refine ⟨a, cell, rfl, hcell, ?_⟩
          have := congrArg Int32.toNatClampNeg h0
          rw [show cell.slots.size.toInt32 = Int32.ofNat cell.slots.size from rfl, Int32.toNatClampNeg_ofNat_of_lt hn] at this
          simpa using this
        · rw [if_neg hn] at h9
          cases h9
set_option maxRecDepth 100000 in
theorem jK_start {s : State} {A : Array Value} (hts : ∀ w ∈ lw_tbl, w.before A s = true) (hg : (Jvm.Cond.and given_1 narrow_1).before A s = true) : ∃ (D : va_G) (t0 : Nat), jK D s.heap.size t0 s ∧ lmt D = s.heap.size + 716 := by
  have hB : ∀ w ∈ BW, w.before A s = true := fun w hw => hts w (List.mem_filter.mp hw).1
  have hT : ∀ w ∈ tables_1, w.before A s = true := fun w hw => hts w (List.mem_append_right _ hw)
  have hs := flat_of_before _ hg
  obtain ⟨fK, hK⟩ := Classical.axiomOfChoice (kn_all hB)
  obtain ⟨c20, a20, b20⟩ := ar_prim (hB _ aw_int) (fun c h => h)
  obtain ⟨c21, a21, b21⟩ := ar_prim (hB _ aw_char) (fun c h => h)
  obtain ⟨c24, a24, b24⟩ := ar_int2 (hT _ ao_int2)
  obtain ⟨c25, a25, b25⟩ := ar_obj (hT _ ao_X8)
  obtain ⟨c26, a26, b26⟩ := ar_obj (hT _ ao_X3)
  obtain ⟨c27, a27, b27⟩ := ar_obj (hT _ ao_X9)
  obtain ⟨c28, a28, b28⟩ := ar_obj (hT _ ao_X5)
  obtain ⟨c29, a29, b29⟩ := ar_obj (hT _ ao_Obj)
  obtain ⟨mi, hmi⟩ := va_Mi.of (hs (Cond.isRef (.mirror "[Ljava/lang/Object;")) (by decide +kernel))
  obtain ⟨t0, cell, ht0, hat, hsz⟩ := len0 (hs (Cond.eq (.length (.static "java/util/ArrayList" "DEFAULTCAPACITY_EMPTY_ELEMENTDATA" "[Ljava/lang/Object;")) (.int 0)) (by decide +kernel))
  obtain ⟨t1, cl1, cell1, k1, e1, e2, e3, e4, -, e6, -⟩ := Cond.exactly_spec (hs (Cond.exactly (.static "java/util/ArrayList" "DEFAULTCAPACITY_EMPTY_ELEMENTDATA" "[Ljava/lang/Object;") "[Ljava/lang/Object;") (by decide +kernel))
  obtain ⟨g1, g2, g3, -⟩ := State.arrayAt?_spec hat
  cases Value.ref.inj (Option.some.inj (ht0.symm.trans e1))
  cases g1.symm.trans e3
  have hlt : t0 < s.heap.size := (Array.getElem?_eq_some_iff.mp g1).1
  obtain ⟨kA, comp, q1, q2, q3, q4⟩ := b29
  have hcc : cl1 = c29 := Option.some.inj (e2.symm.trans q4)
  subst hcc
  have hA : ∀ a : Nat, a < s.heap.size → ¬ s.heap.size ≤ a := fun a h => Nat.not_le.mpr h
  refine ⟨((fun k => if k < 12 then (fK k).1 else if k = 20 then c20 else if k = 21 then c21 else if k = 22 then c21 else if k = 23 then c21 else if k = 24 then c24 else if k = 25 then c25 else if k = 26 then c26 else if k = 27 then c27 else if k = 28 then c28 else if k = 29 then cl1 else if k = 31 then s.heap.size + 716 else mi, fun k => (fK k).2) : va_G), t0, ⟨⟨⟨fun c q hq => ?_, fun k q hq => ?_⟩, va_Nc.of (hs _ (by decide +kernel)), va_Nc.of (hs _ (by decide +kernel)), va_Nc.of (hs _ (by decide +kernel)), hlt, cell, g1, ⟨fun k h => (by rw [h] at g3; cases g3), kA, (by rw [e6]; exact q1), comp, q2⟩, g2, hsz⟩, fun w hw hn => nest_of hn (hT w hw), fun own k tx hw => str_of (hT _ hw), ?_, ?_, ⟨?_, hmi⟩, Nat.le_refl _⟩, rfl⟩
  · have hc : c < 12 := by
      rcases Nat.lt_or_ge c 12 with h | h
      · exact h
      · rw [List.getElem?_eq_none (by simpa using h)] at hq
        cases hq
    show u_Kn s q.1 q.2.1 q.2.2 (if c < 12 then (fK c).1 else _) (fK c).2
    rw [if_pos hc]
    exact hK c q hq
  · match k, hq with
    | 0, hq => cases hq; exact ⟨a20, b20⟩
    | 1, hq => cases hq; exact ⟨a21, b21⟩
    | 2, hq => cases hq; exact ⟨a21, b21⟩
    | 3, hq => cases hq; exact ⟨a21, b21⟩
    | 4, hq => cases hq; exact ⟨a24, b24⟩
    | 5, hq => cases hq; exact ⟨a25, b25⟩
    | 6, hq => cases hq; exact ⟨a26, b26⟩
    | 7, hq => cases hq; exact ⟨a27, b27⟩
    | 8, hq => cases hq; exact ⟨a28, b28⟩
    | 9, hq => cases hq; exact ⟨a29, kA, comp, q1, q2, q3, q4⟩
    | n + 10, hq => simp [jTys] at hq
  · exact vx_Zqof (hT (Cond.laysStatic Bundle.tN "UNASSIGNED_STACK" Bundle.steD) (List.mem_of_getElem? (i := 356) (by decide +kernel))) (hT (Cond.initialized Bundle.tN) (List.mem_of_getElem? (i := 16) (by decide +kernel))) (hs _ (by decide +kernel)) hA
  · exact vx_Zqof (hT (Cond.laysStatic Bundle.tN "SUPPRESSED_SENTINEL" Bundle.listD) (List.mem_of_getElem? (i := 358) (by decide +kernel))) (hT (Cond.initialized Bundle.tN) (List.mem_of_getElem? (i := 16) (by decide +kernel))) (hs _ (by decide +kernel)) hA
  · exact va_Zref (hT (Cond.laysStatic "java/util/ArrayList" "DEFAULTCAPACITY_EMPTY_ELEMENTDATA" "[Ljava/lang/Object;") (List.mem_of_getElem? (i := 186) (by decide +kernel))) (hT (Cond.initialized "java/util/ArrayList") (List.mem_of_getElem? (i := 11) (by decide +kernel))) ht0 hA
end KNO
