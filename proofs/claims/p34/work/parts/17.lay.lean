section LAY
/-- the raw memory: what int stands at a place of a cell (an offset from the base) -/
abbrev jS : Type := Nat → Nat → Int32
def jset (S : jS) (k i : Nat) (v : Int32) : jS := fun q => if q = k then upd (S k) i v else S q
/-- the kinds of the cells, by offset; 1000 + n: n ints, 2000 + n: n chars, 3000 + n: n booleans -/
def kdA : List Nat := [1, 2, 3, 1003, 1003, 1003, 1003, 1003, 1003, 1003, 1003, 1003, 1003, 1003, 1003, 1003, 1003, 1003, 1003, 1003, 1003, 1003, 1003, 1020, 6, 7, 8, 9, 1006, 1006, 1006, 1006, 11, 12, 1009, 1009, 1009, 13, 2060, 13, 2060, 13, 2060, 13, 2060, 13, 2060, 13, 2060, 13, 2060, 13, 2060, 13, 2060, 13, 2060, 13, 2060, 13, 2060, 14, 9, 1008, 1008, 15, 0, 16, 17, 1006, 18, 1008, 1008, 1008, 1008, 1008, 1008, 1008, 1008, 1008, 1008, 1008]
def kdP : List Nat := [17, 1006, 18, 1008, 1008, 1008, 1008, 1008, 1008, 1008, 1008, 1008]
def kdM : List Nat := [21, 1060, 1020, 1360, 1006, 1360, 1006, 1060, 1006, 1006, 1006, 3010, 3010, 3010, 1008, 1040, 1040, 1008, 1160, 1160, 1024, 1006, 1006, 1120, 1960, 3006, 1160, 1160, 1160]
def kd (k : Nat) : Nat :=
  if k < 82 then kdA.getD k 0 else if k < 322 then kdP.getD ((k - 82) % 12) 0 else if k < 346 then (if (k - 322) % 3 = 0 then 19 else 1005) else if k < 358 then (if (k - 346) % 2 = 0 then 20 else 1004) else if k < 387 then kdM.getD (k - 358) 0 else 0
def cellK (D : va_G) (B k κ : Nat) (row : Nat → Int32) : va_E :=
  if 3000 ≤ κ then .inl (D.1 22, κ - 3000, .inl row) else if 2000 ≤ κ then .inl (D.1 21, κ - 2000, .inl row) else if 1000 ≤ κ then .inl (D.1 20, κ - 1000, .inl row) else match κ with
  | 1 => .inr (11, [.ref (B + 1), .ref (B + 24), .ref (B + 61), .ref (B + 62), .ref (B + 65), .ref (B + 66), .ref (B + 67), .ref (B + 68), .ref (B + 80), .ref (B + 81)])
  | 2 => .inr (7, [.ref (B + 2), .ref (B + 23)])
  | 3 => .inl (D.1 24, 20, .inr (.inr (.inr (.inr (fun i => some (B + (3 + i)))))))
  | 6 => .inr (1, [.ref (B + 25), .ref (B + 26), .ref (B + 27), .ref (B + 30), .ref (B + 31), .ref (B + 32), .ref (B + 33)])
  | 7 => .inl (D.1 25, 6, .inr (.inr (.inr (.inr (fun i => some (B + (37 + 4 * i)))))))
  | 8 => .inl (D.1 25, 6, .inr (.inr (.inr (.inr (fun i => some (B + (39 + 4 * i)))))))
  | 9 => .inr (5, [.ref (B + (k + 1)), .ref (B + (k + 2))])
  | 11 => .inr (8, [.int (row 0), .int (row 1)])
  | 12 => .inr (3, [.ref (B + 34), .ref (B + 35), .ref (B + 36), .int (row 3)])
  | 13 => .inr (9, [.ref (B + (k + 1)), .int (row 1)])
  | 14 => .inl (D.1 26, 8, .inr (.inr (.inr (.inr (fun i => some (B + (322 + 3 * i)))))))
  | 15 => .inl (D.1 27, 6, .inr (.inr (.inr (.inr (fun i => some (B + (346 + 2 * i)))))))
  | 16 => .inl (D.1 28, 20, .inr (.inr (.inr (.inr (fun i => some (B + (82 + 12 * i)))))))
  | 17 => .inr (6, [.ref (B + (k + 1)), .ref (B + (k + 2)), .ref (B + (k + 9)), .ref (B + (k + 10)), .ref (B + (k + 11))])
  | 18 => .inl (D.1 24, 6, .inr (.inr (.inr (.inr (fun i => some (B + (k + (1 + i))))))))
  | 19 => .inr (4, [.ref (B + (k + 1)), .ref (B + (k + 2)), .int (row 2)])
  | 20 => .inr (10, [.ref (B + (k + 1)), .int (row 1), .int (row 2), .int (row 3)])
  | _ => .inr (12, [.int (row 0), .ref (B + 359), .ref (B + 360), .ref (B + 361), .ref (B + 362), .ref (B + 363), .ref (B + 364), .ref (B + 365), .int (row 8), .ref (B + 366), .ref (B + 367), .ref (B + 368), .ref (B + 369), .ref (B + 370), .ref (B + 371), .ref (B + 372), .ref (B + 373), .ref (B + 374), .ref (B + 375), .ref (B + 376), .ref (B + 377), .ref (B + 378), .ref (B + 379), .ref (B + 380), .ref (B + 381), .ref (B + 382), .ref (B + 383), .ref (B + 384), .ref (B + 385), .ref (B + 386), .int (row 30)])
/-- the memory whose cells of [lo, hi) the raw memory S tells; elsewhere X -/
def memG (lo hi : Nat) (D : va_G) (B : Nat) (S : jS) (X : jMem) : jMem := fun a => if B + lo ≤ a ∧ a < B + hi ∧ kd (a - B) ≠ 0 then some (cellK D B (a - B) (kd (a - B)) (S (a - B))) else X a
/-- a cell of a kind -/
def kIn (lo hi k κ : Nat) : Prop := lo ≤ k ∧ k < hi ∧ kd k = κ ∧ κ ≠ 0
theorem memG_at {lo hi k κ : Nat} {D : va_G} {B : Nat} {S : jS} {X : jMem} (h : kIn lo hi k κ) : memG lo hi D B S X (B + k) = some (cellK D B k κ (S k)) := by
  obtain ⟨h1, h2, h3, h4⟩ := h
  unfold memG
  rw [Nat.add_sub_cancel_left, if_pos ⟨by omega, by omega, by rw [h3]; exact h4⟩, h3]
theorem memG_up {lo hi k κ : Nat} {D : va_G} {B : Nat} {S : jS} {X : jMem} (h : kIn lo hi k κ) {i : Nat} {v : Int32} {e : va_E} (he : cellK D B k κ (upd (S k) i v) = e) : jUp (memG lo hi D B S X) (B + k) e = memG lo hi D B (jset S k i v) X := by
  obtain ⟨h1, h2, h3, h4⟩ := h
  funext a
  unfold jUp memG
  by_cases ha : a = B + k
  · subst ha
    rw [if_pos rfl, Nat.add_sub_cancel_left, if_pos ⟨by omega, by omega, by rw [h3]; exact h4⟩, h3, ← he]
    unfold jset
    rw [if_pos rfl]
  · rw [if_neg ha]
    by_cases hc : B + lo ≤ a ∧ a < B + hi ∧ kd (a - B) ≠ 0
    · rw [if_pos hc, if_pos hc]
      unfold jset
      rw [if_neg (by omega)]
    · rw [if_neg hc, if_neg hc]
theorem memG_out {lo hi : Nat} {D : va_G} {B : Nat} {S : jS} {X : jMem} {a : Nat} (h : a < B + lo ∨ B + hi ≤ a) : memG lo hi D B S X a = X a := by
  unfold memG
  rw [if_neg (by omega)]
/-! the things of a kind in any number -/
def isPast (b : Nat) : Prop := b = 68 ∨ ∃ p, p < 20 ∧ b = 82 + 12 * p
def isText (b : Nat) : Prop := ∃ j, j < 12 ∧ b = 37 + 2 * j
def isGraph (b n : Nat) : Prop := (b = 27 ∧ n = 6) ∨ (b = 62 ∧ n = 8)
def isFlag (b : Nat) : Prop := ∃ f, f < 8 ∧ b = 322 + 3 * f
def isTrial (b : Nat) : Prop := ∃ t, t < 6 ∧ b = 346 + 2 * t
theorem kdPast_all : ∀ p, p < 20 → kd (82 + 12 * p) = 17 ∧ kd (82 + 12 * p + 1) = 1006 ∧ kd (82 + 12 * p + 2) = 18 ∧ kd (82 + 12 * p + 9) = 1008 ∧ kd (82 + 12 * p + 10) = 1008 ∧ kd (82 + 12 * p + 11) = 1008 ∧ (∀ i, i < 6 → kd (82 + 12 * p + 2 + (1 + i)) = 1008) := by decide +kernel
theorem kdText_all : ∀ j, j < 12 → kd (37 + 2 * j) = 13 ∧ kd (37 + 2 * j + 1) = 2060 := by decide +kernel
theorem kdFlag_all : ∀ j, j < 8 → kd (322 + 3 * j) = 19 ∧ kd (322 + 3 * j + 1) = 1005 ∧ kd (322 + 3 * j + 2) = 1005 := by decide +kernel
theorem kdTrial_all : ∀ j, j < 6 → kd (346 + 2 * j) = 20 ∧ kd (346 + 2 * j + 1) = 1004 := by decide +kernel
theorem kdAttr_all : ∀ j, j < 20 → kd (3 + j) = 1003 := by decide +kernel
theorem kPast {b : Nat} (h : isPast b) : kIn 0 358 b 17 ∧ kIn 0 358 (b + 1) 1006 ∧ kIn 0 358 (b + 2) 18 ∧ kIn 0 358 (b + 9) 1008 ∧ kIn 0 358 (b + 10) 1008 ∧ kIn 0 358 (b + 11) 1008 ∧ (∀ i, i < 6 → kIn 0 358 (b + 2 + (1 + i)) 1008) := by
  rcases h with rfl | ⟨p, hp, rfl⟩
  · refine ⟨⟨by omega, by omega, by decide +kernel, by decide⟩, ⟨by omega, by omega, by decide +kernel, by decide⟩, ⟨by omega, by omega, by decide +kernel, by decide⟩, ⟨by omega, by omega, by decide +kernel, by decide⟩, ⟨by omega, by omega, by decide +kernel, by decide⟩, ⟨by omega, by omega, by decide +kernel, by decide⟩, fun i hi => ⟨by omega, by omega, ?_, by decide⟩⟩
    have h9 : ∀ i, i < 6 → kd (68 + 2 + (1 + i)) = 1008 := by decide +kernel
    exact h9 i hi
  · obtain ⟨a1, a2, a3, a4, a5, a6, a7⟩ := kdPast_all p hp
    exact ⟨⟨by omega, by omega, a1, by decide⟩, ⟨by omega, by omega, a2, by decide⟩, ⟨by omega, by omega, a3, by decide⟩, ⟨by omega, by omega, a4, by decide⟩, ⟨by omega, by omega, a5, by decide⟩, ⟨by omega, by omega, a6, by decide⟩, fun i hi => ⟨by omega, by omega, a7 i hi, by decide⟩⟩
theorem kText {b : Nat} (h : isText b) : kIn 0 358 b 13 ∧ kIn 0 358 (b + 1) 2060 := by
  obtain ⟨j, hj, rfl⟩ := h
  obtain ⟨a1, a2⟩ := kdText_all j hj
  exact ⟨⟨by omega, by omega, a1, by decide⟩, ⟨by omega, by omega, a2, by decide⟩⟩
theorem kFlag {b : Nat} (h : isFlag b) : kIn 0 358 b 19 ∧ kIn 0 358 (b + 1) 1005 ∧ kIn 0 358 (b + 2) 1005 := by
  obtain ⟨j, hj, rfl⟩ := h
  obtain ⟨a1, a2, a3⟩ := kdFlag_all j hj
  exact ⟨⟨by omega, by omega, a1, by decide⟩, ⟨by omega, by omega, a2, by decide⟩, ⟨by omega, by omega, a3, by decide⟩⟩
theorem kTrial {b : Nat} (h : isTrial b) : kIn 0 358 b 20 ∧ kIn 0 358 (b + 1) 1004 := by
  obtain ⟨j, hj, rfl⟩ := h
  obtain ⟨a1, a2⟩ := kdTrial_all j hj
  exact ⟨⟨by omega, by omega, a1, by decide⟩, ⟨by omega, by omega, a2, by decide⟩⟩
theorem kGraph {b n : Nat} (h : isGraph b n) : kIn 0 358 b 9 ∧ kIn 0 358 (b + 1) (1000 + n) ∧ kIn 0 358 (b + 2) (1000 + n) := by
  rcases h with ⟨rfl, rfl⟩ | ⟨rfl, rfl⟩ <;> exact ⟨⟨by omega, by omega, by decide +kernel, by decide⟩, ⟨by omega, by omega, by decide +kernel, by decide⟩, ⟨by omega, by omega, by decide +kernel, by decide⟩⟩
theorem kGraph_n {b n : Nat} (h : isGraph b n) : n < 1000 := by
  rcases h with ⟨-, rfl⟩ | ⟨-, rfl⟩ <;> decide
theorem kAttr {i : Nat} (h : i < 20) : kIn 0 358 (3 + i) 1003 := ⟨by omega, by omega, kdAttr_all i h, by decide⟩
theorem isPast_of {i : Nat} (h : i < 20) : isPast (82 + 12 * i) := Or.inr ⟨i, h, rfl⟩
theorem isPast_r : isPast 68 := Or.inl rfl
theorem isText_d {i : Nat} (h : i < 6) : isText (37 + 4 * i) := ⟨2 * i, by omega, by omega⟩
theorem isText_r {i : Nat} (h : i < 6) : isText (39 + 4 * i) := ⟨2 * i + 1, by omega, by omega⟩
theorem isFlag_of {i : Nat} (h : i < 8) : isFlag (322 + 3 * i) := ⟨i, h, rfl⟩
theorem isTrial_of {i : Nat} (h : i < 6) : isTrial (346 + 2 * i) := ⟨i, h, rfl⟩
theorem isGraph_6 : isGraph 27 6 := Or.inl ⟨rfl, rfl⟩
theorem isGraph_8 : isGraph 62 8 := Or.inr ⟨rfl, rfl⟩
/-- a cell at a fixed offset -/
theorem kAt {lo hi k κ : Nat} (h : (decide (lo ≤ k) && decide (k < hi) && (kd k == κ) && !(κ == 0)) = true) : kIn lo hi k κ := by
  simp only [Bool.and_eq_true, Bool.not_eq_true', decide_eq_true_eq, beq_iff_eq, beq_eq_false_iff_ne, ne_eq] at h
  exact ⟨h.1.1.1, h.1.1.2, h.1.2, h.2⟩
/-! rows over it -/
variable {κ : jCx} {own : String} {cc : ByteArray} {nL : Nat} {ret : Option FieldType} {R : Room} {ρ : Type} {Qf : ρ → State → Prop} {o : Option ρ} {z : Nat → Prop} {bc bs : Nat} {lv : List (Nat × Value)} {pc : Nat} {st : List Value} {lo hi : Nat} {S : jS} {X9 : jMem}
theorem g_getf (X : jX κ own cc nL ret) {k κ' ci : Nat} (j : Nat) {fs : List Value} {C : String} {T : u_T} {N idx : Nat} {ty : Nat → FieldType} {v : Value} (hk : kIn lo hi k κ') (hcl : jCl ci C T N ty) (hj : j < N) (hl : Cond.fieldLink own idx (T j).1 (T j).2.1 (T j).2.2.1 ∈ BW) (d : decode cc pc = .ok (.getfield idx, 3)) (he : cellK (kD κ) (kB κ) k κ' (S k) = .inr (ci, fs)) (hv : fs[j]? = some v)
    (kk : J κ nL R Qf o (memG lo hi (kD κ) (kB κ) S X9) z bc bs lv (pc + 3) (v :: st)) : J κ nL R Qf o (memG lo hi (kD κ) (kB κ) S X9) z bc bs lv pc (.ref (kB κ + k) :: st) :=
  j_getf X j hcl hj hl d ((memG_at hk).trans (congrArg some he)) hv kk
theorem g_getN (X : jX κ own cc nL ret) {k κ' ci : Nat} (j : Nat) {fs : List Value} {C host : String} {T : u_T} {N idx : Nat} {ty : Nat → FieldType} {v : Value} (hk : kIn lo hi k κ') (hcl : jCl ci C T N ty) (hj : j < N) (hl : Cond.fieldLinkNest own idx (T j).1 (T j).2.1 (T j).2.2.1 host ∈ tables_1) (d : decode cc pc = .ok (.getfield idx, 3)) (he : cellK (kD κ) (kB κ) k κ' (S k) = .inr (ci, fs)) (hv : fs[j]? = some v)
    (kk : J κ nL R Qf o (memG lo hi (kD κ) (kB κ) S X9) z bc bs lv (pc + 3) (v :: st)) : J κ nL R Qf o (memG lo hi (kD κ) (kB κ) S X9) z bc bs lv pc (.ref (kB κ + k) :: st) :=
  j_getN X j hcl hj hl d ((memG_at hk).trans (congrArg some he)) hv kk
theorem g_putf (X : jX κ own cc nL ret) {k κ' ci : Nat} (j : Nat) {fs : List Value} {C : String} {T : u_T} {N idx : Nat} {ty : Nat → FieldType} {v : Int32} {f : jS → Option ρ} (hk : kIn lo hi k κ') (hcl : jCl ci C T N ty) (hj : j < N) (hl : Cond.fieldLink own idx (T j).1 (T j).2.1 (T j).2.2.1 ∈ BW) (d : decode cc pc = .ok (.putfield idx, 3)) (hfin : (T j).2.2.2 = false) (hn : narrow (ty j) (.int v) = .int v) (hfit : fits (ty j) (.int v) = true) (he : cellK (kD κ) (kB κ) k κ' (S k) = .inr (ci, fs)) (hlen : j < fs.length) (he2 : cellK (kD κ) (kB κ) k κ' (upd (S k) j v) = .inr (ci, fs.set j (.int v)))
    (kk : ∀ S1, J κ nL R Qf (f S1) (memG lo hi (kD κ) (kB κ) S1 X9) z bc bs lv (pc + 3) st) : J κ nL R Qf (letE (jset S k j v) f) (memG lo hi (kD κ) (kB κ) S X9) z bc bs lv pc (.int v :: .ref (kB κ + k) :: st) :=
  j_putf X j hcl hj hl d hfin hn hfit (Nat.le_add_right _ _) ((memG_at hk).trans (congrArg some he)) hlen (by rw [memG_up hk he2]; exact kk _)
theorem g_putN (X : jX κ own cc nL ret) {k κ' ci : Nat} (j : Nat) {fs : List Value} {C host : String} {T : u_T} {N idx : Nat} {ty : Nat → FieldType} {v : Int32} {f : jS → Option ρ} (hk : kIn lo hi k κ') (hcl : jCl ci C T N ty) (hj : j < N) (hl : Cond.fieldLinkNest own idx (T j).1 (T j).2.1 (T j).2.2.1 host ∈ tables_1) (d : decode cc pc = .ok (.putfield idx, 3)) (hfin : (T j).2.2.2 = false) (hn : narrow (ty j) (.int v) = .int v) (hfit : fits (ty j) (.int v) = true) (he : cellK (kD κ) (kB κ) k κ' (S k) = .inr (ci, fs)) (hlen : j < fs.length) (he2 : cellK (kD κ) (kB κ) k κ' (upd (S k) j v) = .inr (ci, fs.set j (.int v)))
    (kk : ∀ S1, J κ nL R Qf (f S1) (memG lo hi (kD κ) (kB κ) S1 X9) z bc bs lv (pc + 3) st) : J κ nL R Qf (letE (jset S k j v) f) (memG lo hi (kD κ) (kB κ) S X9) z bc bs lv pc (.int v :: .ref (kB κ + k) :: st) :=
  j_putN X j hcl hj hl d hfin hn hfit (Nat.le_add_right _ _) ((memG_at hk).trans (congrArg some he)) hlen (by rw [memG_up hk he2]; exact kk _)
theorem cellK_i {D : va_G} {B k n : Nat} (hn : n < 1000) (row : Nat → Int32) : cellK D B k (1000 + n) row = .inl (D.1 20, n, .inl row) := by
  unfold cellK
  rw [if_neg (by omega), if_neg (by omega), if_pos (by omega), Nat.add_sub_cancel_left]
theorem cellK_c {D : va_G} {B k n : Nat} (hn : n < 1000) (row : Nat → Int32) : cellK D B k (2000 + n) row = .inl (D.1 21, n, .inl row) := by
  unfold cellK
  rw [if_neg (by omega), if_pos (by omega), Nat.add_sub_cancel_left]
theorem cellK_z {D : va_G} {B k n : Nat} (hn : n < 1000) (row : Nat → Int32) : cellK D B k (3000 + n) row = .inl (D.1 22, n, .inl row) := by
  unfold cellK
  rw [if_pos (by omega), Nat.add_sub_cancel_left]
theorem g_iald (X : jX κ own cc nL ret) {k : Nat} (n : Nat) {i : Int32} (hk : kIn lo hi k (1000 + n)) (hn : n < 1000) (d : decode cc pc = .ok (.iaload, 1))
    (kk : inb i n = true → J κ nL R Qf o (memG lo hi (kD κ) (kB κ) S X9) z bc bs lv (pc + 1) (.int (S k i.toNatClampNeg) :: st)) : J κ nL R Qf (chk (inb i n) o) (memG lo hi (kD κ) (kB κ) S X9) z bc bs lv pc (.int i :: .ref (kB κ + k) :: st) :=
  j_chk fun h => j_iald X (inb_in h) d ((memG_at hk).trans (congrArg some (cellK_i hn _))) (kk h)
theorem g_cald (X : jX κ own cc nL ret) {k : Nat} (n : Nat) {i : Int32} (hk : kIn lo hi k (2000 + n)) (hn : n < 1000) (d : decode cc pc = .ok (.caload, 1))
    (kk : inb i n = true → J κ nL R Qf o (memG lo hi (kD κ) (kB κ) S X9) z bc bs lv (pc + 1) (.int (S k i.toNatClampNeg) :: st)) : J κ nL R Qf (chk (inb i n) o) (memG lo hi (kD κ) (kB κ) S X9) z bc bs lv pc (.int i :: .ref (kB κ + k) :: st) :=
  j_chk fun h => j_cald X (inb_in h) d ((memG_at hk).trans (congrArg some (cellK_c hn _))) (kk h)
theorem g_iast (X : jX κ own cc nL ret) {k : Nat} (n : Nat) {i x : Int32} {f : jS → Option ρ} (hk : kIn lo hi k (1000 + n)) (hn : n < 1000) (d : decode cc pc = .ok (.iastore, 1))
    (kk : inb i n = true → ∀ S1, J κ nL R Qf (f S1) (memG lo hi (kD κ) (kB κ) S1 X9) z bc bs lv (pc + 1) st) : J κ nL R Qf (chk (inb i n) (letE (jset S k i.toNatClampNeg x) f)) (memG lo hi (kD κ) (kB κ) S X9) z bc bs lv pc (.int x :: .int i :: .ref (kB κ + k) :: st) :=
  j_chk fun h => j_iast X (inb_in h) d (Nat.le_add_right _ _) ((memG_at hk).trans (congrArg some (cellK_i hn _))) (by rw [memG_up hk (cellK_i hn _)]; exact kk h _)
theorem g_cast (X : jX κ own cc nL ret) {k : Nat} (n : Nat) {i x : Int32} {f : jS → Option ρ} (hk : kIn lo hi k (2000 + n)) (hn : n < 1000) (d : decode cc pc = .ok (.castore, 1))
    (kk : inb i n = true → ∀ S1, J κ nL R Qf (f S1) (memG lo hi (kD κ) (kB κ) S1 X9) z bc bs lv (pc + 1) st) : J κ nL R Qf (chk (inb i n) (letE (jset S k i.toNatClampNeg (vp_nar .char x)) f)) (memG lo hi (kD κ) (kB κ) S X9) z bc bs lv pc (.int x :: .int i :: .ref (kB κ + k) :: st) :=
  j_chk fun h => j_cast X (inb_in h) d (Nat.le_add_right _ _) ((memG_at hk).trans (congrArg some (cellK_c hn _))) (by rw [memG_up hk (cellK_c hn _)]; exact kk h _)
theorem g_aald (X : jX κ own cc nL ret) {k κ' : Nat} (q : Nat) (n : Nat) {b : Nat} {f : Nat → Option Nat} {cA : ClassId} {ty : FieldType} {i : Int32} (hk : kIn lo hi k κ') (ht : (jTys (kD κ))[q]? = some (cA, ty)) (hr : ty.isReference = true) (d : decode cc pc = .ok (.aaload, 1)) (he : cellK (kD κ) (kB κ) k κ' (S k) = .inl (cA, n, .inr (.inr (.inr (.inr f))))) (hf : f i.toNatClampNeg = some b)
    (kk : i.toNatClampNeg < n → J κ nL R Qf o (memG lo hi (kD κ) (kB κ) S X9) z bc bs lv (pc + 1) (.ref b :: st)) : J κ nL R Qf (chk (inb i n) o) (memG lo hi (kD κ) (kB κ) S X9) z bc bs lv pc (.int i :: .ref (kB κ + k) :: st) :=
  j_chk fun h => j_aald X q ht hr (inb_in h) d ((memG_at hk).trans (congrArg some he)) hf (kk (inb_lt h))
end LAY
