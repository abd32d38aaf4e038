section OPN
theorem flags_nt (l : Launch) (h : l.flags = flags0) : l.stackTraces = false := by
  unfold Launch.stackTraces
  rw [h]
  decide +kernel
/-- what Level 2 owes -/
def LawTrue : Prop := ∃ (vG vH vR : Int32) (SG SH SR : jS) (SP : Nat → jS), f_X4_arrange zS 27 6 = some (0, vG, SG) ∧ f_X4_arrange zS 62 8 = some (0, vH, SH) ∧ f_X5_forget zS 68 = some (0, vR, SR) ∧ (∀ p, p < 20 → ∃ v, f_X5_forget zS (82 + 12 * p) = some (0, v, SP p)) ∧
  ∀ (N : Nat) (xs : Nat → Int32), N ≤ 260 → lawF N xs 101 0 (sF SG SH SR SP) [] (sF SG SH SR SP) [] = some 1
/-- the law's walk, open in LawTrue -/
theorem start_open {p : Program} {e : Env} {s : State} {m : MethodId} {below : List Frame} {meth : Method} {c : Code} (l : Launch) (hflags : l.flags = flags0) {b L : Nat} {xs : Nat → Int32} (hL : L ≤ 260) (C0 : lw_At p s m meth c b L xs) (hlaw : LawTrue) : W p l e room_1 s m #[Value.ref b] below meth c s.heap [] 0 0 (lw_Z below #[Value.ref b] s) (entryFrame m ([Value.ref b] : List Value).toArray 6) := by
  obtain ⟨vG, vH, vR, SG, SH, SR, SP, hG, hH, hR, hP, hall⟩ := hlaw
  obtain ⟨x1, x2, x3, x4, x5, x6, x7, x8, x9, x10⟩ := C0
  obtain ⟨D, t0, hK, hlm⟩ := jK_start x6 x10
  have X : jX ⟨p, l, e, s, m, #[Value.ref b], below, meth, c, D, s.heap.size, t0⟩ RL code 6 (some .boolean) := ⟨x1, x2, x4, x3, x5, fun w hw => x6 w (List.mem_filter.mp hw).1, x9, flags_nt l hflags, hK⟩
  have hj := c_law_begin (Qf := fun _ => lw_Z below #[Value.ref b] s) (b0 := b) (N := L) (xs := xs) X x8 ⟨x8, x7⟩ hlm hG hH hR hP (fun M bc bs lv => ?_) 1 (hall L xs hL) s.heap [] 0 0 _ (fun a e h => nomatch h) rfl va_S.rf (by decide +kernel) (by decide +kernel) (lv_entry (n := 6) [Value.ref b] (Nat.le_of_ble_eq_true rfl))
  · rw [lg_entry_eq]
    exact hj
  · intro r ho H locs cells slots ls h1 h2 h3 h4 h5 h6
    refine va_forget (fun q hq => h3.2.2 q hq) (W.widen (k := 600086) (n := 7301442) ?_ ?_ (lw_ret x1 x2 x3 x9 dL_law_156))
    · have : cells + bc ≤ 600086 := h4
      omega
    · have : slots + bs ≤ 7301442 := h5
      omega
end OPN
