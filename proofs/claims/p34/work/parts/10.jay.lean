section JAY
/-- the words that hold in every state of the run: the good ones of the tables -/
def BW : List Cond := lw_tbl.filter goodWord
theorem BW_of {w : Cond} (h : w ∈ lw_tbl) (g : goodWord w = true) : w ∈ BW := List.mem_filter.mpr ⟨h, g⟩
theorem BW_good {w : Cond} (h : w ∈ BW) : (w.onTables && w.keeps) = true ∨ ∃ ty, w = .arrayClass ty := good_of_word (List.mem_filter.mp h).2
def jws (y : MethodName) (cc : ByteArray) (nL : Nat) (ret : Option FieldType) : List Cond := .code y cc nL ret :: BW
theorem jgood {y : MethodName} {cc : ByteArray} {nL : Nat} {ret : Option FieldType} (h : Cond.code y cc nL ret ∈ BW) : GoodIn BW (jws y cc nL ret) := fun w hw => (List.mem_cons.mp hw).elim (fun e => ⟨e ▸ h, BW_good (e ▸ h)⟩) (fun h2 => ⟨h2, BW_good h2⟩)
/-- a memory: what is known at an address -/
abbrev jMem : Type := Nat → Option va_E
def jRep (D : va_G) (M : jMem) (H : Heap) : Prop := ∀ (a : Nat) (e : va_E), M a = some e → va_at D vwCl (a, e) H
def jUp (M : jMem) (a : Nat) (e : va_E) : jMem := fun q => if q = a then some e else M q
theorem jRep.up {D : va_G} {M : jMem} {H H1 : Heap} {a : Nat} {e : va_E} (h : jRep D M H) (he : va_at D vwCl (a, e) H1) (oq : ∀ q : Nat, q ≠ a → H1[q]? = H[q]?) : jRep D (jUp M a e) H1 := by
  intro q e' hq
  unfold jUp at hq
  by_cases hqa : q = a
  · subst hqa
    rw [if_pos rfl] at hq
    cases hq
    exact he
  · rw [if_neg hqa] at hq
    exact (h q e' hq).kept (oq q hqa)
theorem jRep.kept {D : va_G} {M : jMem} {H H1 : Heap} (h : jRep D M H) (oq : ∀ q : Nat, q < H.size → H1[q]? = H[q]?) : jRep D M H1 := fun a e he => (h a e he).kept (oq a ((h a e he).lt))
theorem jRep.lt {D : va_G} {M : jMem} {H : Heap} (h : jRep D M H) {a : Nat} {e : va_E} (he : M a = some e) : a < H.size := (h a e he).lt
/-- less is known -/
def jLe (M1 M2 : jMem) : Prop := ∀ (a : Nat) (e : va_E), M1 a = some e → M2 a = some e
theorem jRep.less {D : va_G} {M1 M2 : jMem} {H : Heap} (h : jRep D M2 H) (hl : jLe M1 M2) : jRep D M1 H := fun a e he => h a e (hl a e he)
/-- the words that speak of nest mates, of casts, of arrays of references -/
def jNest : Cond → Bool
  | .methodLinkNest .. => true
  | .fieldLinkNest .. => true
  | .castable .. => true
  | .arrayOver _ => true
  | .declares _ => true
  | _ => false
def jTys (D : va_G) : List (ClassId × FieldType) := [(D.1 20, .int), (D.1 21, .char), (D.1 22, .char), (D.1 23, .char), (D.1 24, .array .int), (D.1 25, .object "FlagChamber$Text"), (D.1 26, .object "FlagChamber$Flag"), (D.1 27, .object "FlagChamber$Trial"), (D.1 28, .object "FlagChamber$Past"), (D.1 29, .object "java/lang/Object")]
theorem jAO_spec {A : Array Value} {U : State} {t : FieldType} (h : (Cond.arrayOver (.array t)).before A U = true) :
    ∃ comp c k, U.vm.findClass (FieldType.array t).toString = some comp ∧ (U.vm.classes.findIdx? fun x => match x.kind with | .array component _ => component == comp | _ => false) = some c ∧ U.vm.classes[c]? = some k ∧ k.kind = .array comp (.array t) ∧
      U.vm.findClass ("[" ++ (FieldType.array t).toString) = some c := by
  unfold Cond.before at h
  simp only [Cond.holds, Cond.value, beq_iff_eq] at h
  cases hc : U.vm.findClass (FieldType.array t).toString with
  | none => simp [hc] at h
  | some comp =>
    simp only [hc, Option.bind_some, Option.bind_eq_some_iff, Option.map_eq_some_iff] at h
    obtain ⟨c, hi, k, hk, hb⟩ := h
    obtain ⟨hlt, hp, -⟩ := Array.findIdx?_eq_some_iff_getElem.mp hi
    have hkk : U.vm.classes[c] = k := (Array.getElem?_eq_some_iff.mp hk).2
    rw [hkk] at hp
    cases hkind : k.kind with
    | array component ty =>
      rw [hkind] at hb hp
      simp at hb hp
      exact ⟨comp, c, k, rfl, hi, hk, by rw [hkind, hp, hb.1], hb.2⟩
    | _ => rw [hkind] at hb; simp at hb
theorem jAO_moved {t : FieldType} {A A' : Array Value} {u U : State} (hvm : u.vm.Alike U.vm) (h : (Cond.arrayOver (.array t)).before A u = true) : (Cond.arrayOver (.array t)).before A' U = true := by
  obtain ⟨comp, c, k, h1, h2, h3, h4, h5⟩ := jAO_spec h
  obtain ⟨k', hk', he⟩ := hvm.2.2 _ _ h3
  have hi : (U.vm.classes.findIdx? fun (x : Class) => match x.kind with | .array component _ => component == comp | _ => false) = some c := by
    have e1 := va_idx_bare U.vm comp
    have e2 := va_idx_bare u.vm comp
    first | rw [hvm.bare_eq] at e1 | rw [← hvm.bare_eq] at e1
    exact e1.symm.trans (e2.trans h2)
  have hkind : k'.kind = .array comp (.array t) := by rw [he]; exact h4
  have f1 : U.vm.findClass (FieldType.array t).toString = some comp := by rw [hvm.findClass]; exact h1
  have f2 : U.vm.findClass ("[" ++ (FieldType.array t).toString) = some c := by rw [hvm.findClass]; exact h5
  unfold Cond.before Cond.holds
  simp only [Cond.value]
  rw [f1, Option.bind_some]
  refine (congrArg (fun o : Option Nat => (o.bind (fun c => (U.vm.classes[c]?).map fun (k : Class) => match k.kind with | .array _ ty => decide (ty = FieldType.array t) && decide (U.vm.findClass ("[" ++ (FieldType.array t).toString) = some c) | _ => false) == some true)) hi).trans ?_
  simp [hk', hkind, f2]
theorem jNest_moved {w : Cond} {s U : State} (hn : jNest w = true) (hW : s.WarmedH U.vm) (h : w.before #[] s = true) : w.before #[] U = true := by
  cases w with
  | methodLinkNest a i x h9 => exact va_Nw.warmM hW h
  | fieldLinkNest a i b n d h9 => exact va_Nw.warmF hW h
  | castable C T => exact va_Nw.warmC hW h
  | declares x => exact va_Nw.warmD hW h
  | arrayOver t =>
    cases t with
    | object C => exact va_AO.moved hW.alike h
    | array t => exact jAO_moved hW.alike h
    | _ => exact absurd h (by unfold Cond.before Cond.holds; simp [Cond.value])
  | _ => exact nomatch (show false = true from hn)
/-- the empty lists' array -/
def jE0 (B t0 : Nat) (U : State) : Prop := t0 < B ∧ ∃ cell : Cell, U.heap[t0]? = some cell ∧ U.isArrayOf cell (.object "java/lang/Object") ∧ cell.vm ≠ .unknown ∧ cell.slots.size = 0
theorem jE0.moved {B t0 : Nat} {s U : State} (hvm : s.vm.Alike U.vm) (hq : ∀ a : Nat, a < s.heap.size → ¬ B ≤ a → U.heap[a]? = s.heap[a]?) (h : jE0 B t0 s) : jE0 B t0 U := by
  obtain ⟨h1, cell, h2, ⟨h3, k, h4, comp, h5⟩, h6, h7⟩ := h
  obtain ⟨k', hk', he⟩ := hvm.2.2 _ _ h4
  exact ⟨h1, cell, (hq t0 (Array.getElem?_eq_some_iff.mp h2).1 (Nat.not_le.mpr h1)).trans h2, ⟨h3, k', hk', comp, by rw [he]; exact h5⟩, h6, h7⟩
/-- what is known of the machine's tables and statics, in every state of the run -/
def jK (D : va_G) (B t0 : Nat) (U : State) : Prop :=
  (va_K D vwCl (jTys D) U ∧ va_Nc "java/lang/IllegalStateException" "java/lang/IllegalArgumentException" U ∧ va_Nc "java/lang/IndexOutOfBoundsException" "java/lang/IllegalArgumentException" U ∧ va_Nc "java/lang/IllegalStateException" "java/lang/IndexOutOfBoundsException" U ∧ jE0 B t0 U) ∧ (∀ w ∈ tables_1, jNest w = true → w.before #[] U = true) ∧ (∀ own k tx, Cond.stringRef own k tx ∈ tables_1 → ∃ a, vk_R own k tx a U) ∧
  vx_Zq Bundle.tN "UNASSIGNED_STACK" Bundle.steD (fun q => B ≤ q) U U.heap ∧ vx_Zq Bundle.tN "SUPPRESSED_SENTINEL" Bundle.listD (fun q => B ≤ q) U U.heap ∧
  (va_Z "java/util/ArrayList" "DEFAULTCAPACITY_EMPTY_ELEMENTDATA" "[Ljava/lang/Object;" (.ref t0) (fun q => B ≤ q) U U.heap ∧ va_Mi "[Ljava/lang/Object;" (D.1 30) U) ∧ B ≤ U.heap.size
theorem jK.moved {D : va_G} {B t0 : Nat} {s U : State} (h : jK D B t0 s) (hW : s.WarmedH U.vm) (hz : s.heap.size ≤ U.heap.size) (hq : ∀ a : Nat, a < s.heap.size → ¬ B ≤ a → U.heap[a]? = s.heap[a]?) : jK D B t0 U := by
  obtain ⟨h1, h2, h3, h4, h5, h6, h7⟩ := h
  exact ⟨⟨h1.1.moved hW.alike, h1.2.1.moved hW.alike, h1.2.2.1.moved hW.alike, h1.2.2.2.1.moved hW.alike, h1.2.2.2.2.moved hW.alike hq⟩, fun w hw hn => jNest_moved hn hW (h2 w hw hn), fun own k tx hw => (h3 own k tx hw).imp fun a ha => ha.warm hW,
    vx_Zq.kept (vx_Zq.moved hW.alike h4) hq, vx_Zq.kept (vx_Zq.moved hW.alike h5) hq, ⟨va_Z.kept (va_Z.moved hW.alike h6.1) hq, h6.2.moved hW.alike⟩, Nat.le_trans h7 hz⟩
end JAY
