section POP
theorem tb_split {a b j : Nat} (ha : a < 256) : (a + 256 * b).testBit j = if j < 8 then a.testBit j else b.testBit (j - 8) := by
  have := Nat.testBit_two_pow_mul_add b (b := a) (i := 8) ha j
  rw [Nat.add_comm]
  exact this
theorem land_split {a b m n : Nat} (ha : a < 256) (hm : m < 256) : (a + 256 * b) &&& (m + 256 * n) = (a &&& m) + 256 * (b &&& n) := by
  refine Nat.eq_of_testBit_eq fun j => ?_
  have hlt : a &&& m < 256 := Nat.lt_of_le_of_lt Nat.and_le_left ha
  rw [Nat.testBit_and, tb_split ha, tb_split hm, tb_split hlt]
  by_cases hj : j < 8
  · rw [if_pos hj, if_pos hj, if_pos hj, Nat.testBit_and]
  · rw [if_neg hj, if_neg hj, if_neg hj, Nat.testBit_and]
def st1 (M K : Nat) : Nat := K - (K / 2 &&& M)
def st2 (M x : Nat) : Nat := (x &&& M) + (x / 4 &&& M)
def st3 (M x : Nat) : Nat := (x + x / 16) &&& M
theorem dc1 : ((List.range 256).all fun a => (List.range 2).all fun r => decide ((a / 2 + 128 * r) &&& 85 = a / 2 &&& 85) && decide (a / 2 &&& 85 ≤ a)) = true := by decide +kernel
theorem dc2 : ((List.range 256).all fun a => (List.range 4).all fun r => decide ((a / 4 + 64 * r) &&& 51 = a / 4 &&& 51)) = true := by decide +kernel
theorem dc3 : ((List.range 69).all fun a => (List.range 5).all fun r => decide ((a + a / 16 + 16 * r) &&& 15 = (a + a / 16) &&& 15)) = true := by decide +kernel
theorem dc4 : ((List.range 256).all fun a => decide (st1 85 a < 256) && decide (st2 51 (st1 85 a) ≤ 68) && decide (st2 51 (st1 85 a) % 16 ≤ 4) && decide (st3 15 (st2 51 (st1 85 a)) = cntB (fun i => a.testBit i) 8)) = true := by decide +kernel
theorem dc5 : ((List.range 16).all fun c => decide (st2 13107 (st1 21845 c) % 16 ≤ 4) && decide (st3 3855 (st2 13107 (st1 21845 c)) = cntB (fun i => c.testBit i) 4)) = true := by decide +kernel
theorem of_dc1 {a r : Nat} (ha : a < 256) (hr : r < 2) : (a / 2 + 128 * r) &&& 85 = a / 2 &&& 85 ∧ a / 2 &&& 85 ≤ a := by
  have := List.all_eq_true.mp (List.all_eq_true.mp dc1 a (List.mem_range.mpr ha)) r (List.mem_range.mpr hr)
  simpa using this
theorem of_dc2 {a r : Nat} (ha : a < 256) (hr : r < 4) : (a / 4 + 64 * r) &&& 51 = a / 4 &&& 51 := by
  have := List.all_eq_true.mp (List.all_eq_true.mp dc2 a (List.mem_range.mpr ha)) r (List.mem_range.mpr hr)
  exact of_decide_eq_true this
theorem of_dc3 {a r : Nat} (ha : a < 69) (hr : r < 5) : (a + a / 16 + 16 * r) &&& 15 = (a + a / 16) &&& 15 := by
  have := List.all_eq_true.mp (List.all_eq_true.mp dc3 a (List.mem_range.mpr ha)) r (List.mem_range.mpr hr)
  exact of_decide_eq_true this
theorem of_dc4 {a : Nat} (ha : a < 256) : st1 85 a < 256 ∧ st2 51 (st1 85 a) ≤ 68 ∧ st2 51 (st1 85 a) % 16 ≤ 4 ∧ st3 15 (st2 51 (st1 85 a)) = cntB (fun i => a.testBit i) 8 := by
  have := List.all_eq_true.mp dc4 a (List.mem_range.mpr ha)
  simp only [Bool.and_eq_true, decide_eq_true_eq] at this
  exact ⟨this.1.1.1, this.1.1.2, this.1.2, this.2⟩
theorem of_dc5 {c : Nat} (hc : c < 16) : st2 13107 (st1 21845 c) % 16 ≤ 4 ∧ st3 3855 (st2 13107 (st1 21845 c)) = cntB (fun i => c.testBit i) 4 := by
  have := List.all_eq_true.mp dc5 c (List.mem_range.mpr hc)
  simp only [Bool.and_eq_true, decide_eq_true_eq] at this
  exact this
theorem st1_s {a b M : Nat} (ha : a < 256) : st1 (85 + 256 * M) (a + 256 * b) = st1 85 a + 256 * st1 M b := by
  unfold st1
  have e : (a + 256 * b) / 2 = (a / 2 + 128 * (b % 2)) + 256 * (b / 2) := by omega
  obtain ⟨h1, h2⟩ := of_dc1 ha (show b % 2 < 2 by omega)
  have h3 : b / 2 &&& M ≤ b := Nat.le_trans Nat.and_le_left (by omega)
  rw [e, land_split (by omega) (by omega), h1]
  omega
theorem st2_s {a b M : Nat} (ha : a < 256) : st2 (51 + 256 * M) (a + 256 * b) = st2 51 a + 256 * st2 M b := by
  unfold st2
  have e : (a + 256 * b) / 4 = (a / 4 + 64 * (b % 4)) + 256 * (b / 4) := by omega
  rw [e, land_split ha (by omega), land_split (by omega) (by omega), of_dc2 ha (show b % 4 < 4 by omega)]
  omega
theorem st3_s {a b M : Nat} (ha : a ≤ 68) (hb : b % 16 ≤ 4) : st3 (15 + 256 * M) (a + 256 * b) = st3 15 a + 256 * st3 M b := by
  unfold st3
  have e : a + 256 * b + (a + 256 * b) / 16 = (a + a / 16 + 16 * (b % 16)) + 256 * (b + b / 16) := by omega
  rw [e, land_split (by omega) (by omega), of_dc3 (show a < 69 by omega) (show b % 16 < 5 by omega)]
def popN (K : Nat) : Nat := ((st3 252645135 (st2 858993459 (st1 1431655765 K)) + st3 252645135 (st2 858993459 (st1 1431655765 K)) / 256) + (st3 252645135 (st2 858993459 (st1 1431655765 K)) + st3 252645135 (st2 858993459 (st1 1431655765 K)) / 256) / 65536) &&& 63
theorem cntB_le_n {q : Nat → Bool} {n : Nat} : cntB q n ≤ n := by
  have := cntB_le (p := q) (q := fun _ => true) n (fun _ _ _ => rfl)
  rwa [cntB_all] at this
theorem pop_fin {x y z : Nat} (hx : x ≤ 8) (hy : y ≤ 8) (hz : z ≤ 4) : ((x + 256 * (y + 256 * z) + (x + 256 * (y + 256 * z)) / 256) + (x + 256 * (y + 256 * z) + (x + 256 * (y + 256 * z)) / 256) / 65536) % 64 = x + (y + z) := by
  have h1 : (x + 256 * (y + 256 * z)) / 256 = y + 256 * z := by omega
  rw [h1]
  have h2 : (x + 256 * (y + 256 * z) + (y + 256 * z)) / 65536 = z := by omega
  rw [h2]
  omega
theorem popN_eq {K : Nat} (hK : K < 1048576) : popN K = cntB (fun i => K.testBit i) 20 := by
  obtain ⟨a, b, c, ha, hb, hc, rfl⟩ : ∃ a b c, a < 256 ∧ b < 256 ∧ c < 16 ∧ K = a + 256 * (b + 256 * c) := ⟨K % 256, K / 256 % 256, K / 65536, by omega, by omega, by omega, by omega⟩
  obtain ⟨a1, a2, a3, a4⟩ := of_dc4 ha
  obtain ⟨b1, b2, b3, b4⟩ := of_dc4 hb
  obtain ⟨c3, c4⟩ := of_dc5 hc
  have x1 : st1 1431655765 (a + 256 * (b + 256 * c)) = st1 85 a + 256 * (st1 85 b + 256 * st1 21845 c) := by
    rw [show 1431655765 = 85 + 256 * (85 + 256 * 21845) from rfl, st1_s ha, st1_s hb]
  have x2 : st2 858993459 (st1 85 a + 256 * (st1 85 b + 256 * st1 21845 c)) = st2 51 (st1 85 a) + 256 * (st2 51 (st1 85 b) + 256 * st2 13107 (st1 21845 c)) := by
    rw [show 858993459 = 51 + 256 * (51 + 256 * 13107) from rfl, st2_s a1, st2_s b1]
  have x3 : st3 252645135 (st2 51 (st1 85 a) + 256 * (st2 51 (st1 85 b) + 256 * st2 13107 (st1 21845 c))) = cntB (fun i => a.testBit i) 8 + 256 * (cntB (fun i => b.testBit i) 8 + 256 * cntB (fun i => c.testBit i) 4) := by
    rw [show 252645135 = 15 + 256 * (15 + 256 * 3855) from rfl, st3_s a2 (by omega), st3_s b2 c3, a4, b4, c4]
  have e1 : cntB (fun i => (a + 256 * (b + 256 * c)).testBit i) 20 = cntB (fun i => a.testBit i) 8 + (cntB (fun i => b.testBit i) 8 + cntB (fun i => c.testBit i) 4) := by
    rw [show 20 = 8 + (8 + 4) from rfl, cntB_add, cntB_add]
    refine congr (congrArg _ (cntB_c 8 fun k hk => ?_)) (congr (congrArg _ (cntB_c 8 fun k hk => ?_)) (cntB_c 4 fun k hk => ?_))
    · rw [tb_split ha, if_pos hk]
    · rw [tb_split ha, if_neg (by omega), tb_split hb, if_pos (by omega)]
      congr 1
      omega
    · rw [tb_split ha, if_neg (by omega), tb_split hb, if_neg (by omega)]
      congr 1
      omega
  have l1 := cntB_le_n (q := fun i => a.testBit i) (n := 8)
  have l2 := cntB_le_n (q := fun i => b.testBit i) (n := 8)
  have l3 := cntB_le_n (q := fun i => c.testBit i) (n := 4)
  unfold popN
  rw [x1, x2, x3, e1]
  have h63 : ∀ n : Nat, n &&& 63 = n % 64 := fun n => Nat.and_two_pow_sub_one_eq_mod n 6
  rw [h63]
  exact pop_fin l1 l2 l3
theorem n32_and {x y : Nat} : Int32.ofNat x &&& Int32.ofNat y = Int32.ofNat (x &&& y) := by
  refine Int32.toBitVec_inj.mp ?_
  rw [Int32.toBitVec_and]
  show BitVec.ofNat 32 x &&& BitVec.ofNat 32 y = BitVec.ofNat 32 (x &&& y)
  exact BitVec.ofNat_and.symm
theorem n32_shr {x s : Nat} (hx : x < 2147483648) (hs : s < 32) : ((Int32.ofNat x).toUInt32 >>> (UInt32.ofNat s)).toInt32 = Int32.ofNat (x / 2 ^ s) := by
  refine Int32.toBitVec_inj.mp (BitVec.eq_of_toNat_eq ?_)
  show ((Int32.ofNat x).toUInt32 >>> (UInt32.ofNat s)).toNat = (BitVec.ofNat 32 (x / 2 ^ s)).toNat
  rw [UInt32.toNat_shiftRight, BitVec.toNat_ofNat]
  have h1 : (Int32.ofNat x).toUInt32.toNat = x := by
    show (BitVec.ofNat 32 x).toNat = x
    rw [BitVec.toNat_ofNat, Nat.mod_eq_of_lt (by omega)]
  have h2 : (UInt32.ofNat s).toNat = s := by
    show (BitVec.ofNat 32 s).toNat = s
    rw [BitVec.toNat_ofNat, Nat.mod_eq_of_lt (by omega)]
  have h3 : x / 2 ^ s ≤ x := Nat.div_le_self _ _
  rw [h1, h2, Nat.mod_eq_of_lt hs, Nat.shiftRight_eq_div_pow, Nat.mod_eq_of_lt (by omega)]
theorem pc_popN {K : Nat} (hK : K < 1048576) : pc (Int32.ofNat K) = Int32.ofNat (popN K) := by
  have s1 : ∀ x, x < 2147483648 → ((Int32.ofNat x).toUInt32 >>> ((1 : Int32).toUInt32 &&& Int32.toUInt32 31)).toInt32 = Int32.ofNat (x / 2) := fun x hx => n32_shr (s := 1) hx (by omega)
  have s2 : ∀ x, x < 2147483648 → ((Int32.ofNat x).toUInt32 >>> ((2 : Int32).toUInt32 &&& Int32.toUInt32 31)).toInt32 = Int32.ofNat (x / 4) := fun x hx => n32_shr (s := 2) hx (by omega)
  have s4 : ∀ x, x < 2147483648 → ((Int32.ofNat x).toUInt32 >>> ((4 : Int32).toUInt32 &&& Int32.toUInt32 31)).toInt32 = Int32.ofNat (x / 16) := fun x hx => n32_shr (s := 4) hx (by omega)
  have s8 : ∀ x, x < 2147483648 → ((Int32.ofNat x).toUInt32 >>> ((8 : Int32).toUInt32 &&& Int32.toUInt32 31)).toInt32 = Int32.ofNat (x / 256) := fun x hx => n32_shr (s := 8) hx (by omega)
  have s16 : ∀ x, x < 2147483648 → ((Int32.ofNat x).toUInt32 >>> ((16 : Int32).toUInt32 &&& Int32.toUInt32 31)).toInt32 = Int32.ofNat (x / 65536) := fun x hx => n32_shr (s := 16) hx (by omega)
  have h1 : K / 2 &&& 1431655765 ≤ K := Nat.le_trans Nat.and_le_left (by omega)
  have e1 : Int32.ofNat K - (Int32.ofNat (K / 2) &&& (1431655765 : Int32)) = Int32.ofNat (st1 1431655765 K) := by
    rw [show (1431655765 : Int32) = Int32.ofNat 1431655765 from rfl, n32_and, n32_subn h1]
    rfl
  have b1 : st1 1431655765 K < 1048576 := by unfold st1; omega
  have e2 : (Int32.ofNat (st1 1431655765 K) &&& (858993459 : Int32)) + (Int32.ofNat (st1 1431655765 K / 4) &&& (858993459 : Int32)) = Int32.ofNat (st2 858993459 (st1 1431655765 K)) := by
    rw [show (858993459 : Int32) = Int32.ofNat 858993459 from rfl, n32_and, n32_and, n32_addn]
    rfl
  have b2 : st2 858993459 (st1 1431655765 K) < 2097152 := by
    unfold st2
    have := Nat.and_le_left (n := st1 1431655765 K) (m := 858993459)
    have := Nat.and_le_left (n := st1 1431655765 K / 4) (m := 858993459)
    omega
  have e3 : (Int32.ofNat (st2 858993459 (st1 1431655765 K)) + Int32.ofNat (st2 858993459 (st1 1431655765 K) / 16)) &&& (252645135 : Int32) = Int32.ofNat (st3 252645135 (st2 858993459 (st1 1431655765 K))) := by
    rw [show (252645135 : Int32) = Int32.ofNat 252645135 from rfl, n32_addn, n32_and]
    rfl
  have b3 : st3 252645135 (st2 858993459 (st1 1431655765 K)) < 4194304 := by
    unfold st3
    have := Nat.and_le_left (n := st2 858993459 (st1 1431655765 K) + st2 858993459 (st1 1431655765 K) / 16) (m := 252645135)
    omega
  unfold pc
  dsimp only
  rw [s1 K (by omega), e1, s2 _ (by omega), e2, s4 _ (by omega), e3, s8 _ (by omega), n32_addn, s16 _ (by omega), n32_addn, show (63 : Int32) = Int32.ofNat 63 from rfl, n32_and]
  rfl
theorem pc_cnt {w : Int32} (h : bits 20 w) : pc w = Int32.ofNat (cntB (bt w) 20) := by
  obtain ⟨K, hK, rfl⟩ := bits_nat (by omega) h
  have hK : K < 1048576 := hK
  rw [pc_popN hK, popN_eq hK]
  refine congrArg Int32.ofNat (cntB_c 20 fun k hk => ?_)
  unfold bt
  show K.testBit k = (BitVec.ofNat 32 K).getLsbD k
  rw [BitVec.getLsbD_ofNat, decide_eq_true (by omega), Bool.true_and]
theorem m_countBits {w : Int32} : f_X11_countBits w = some (0, Int32.ofNat (cntB (bt w) 20), ()) := by
  suffices hw : wq (f_X11_countBits w) (fun t v _ => t = 0 ∧ v = Int32.ofNat (cntB (bt w) 20)) by
    obtain ⟨t, v, S1, e, rfl, rfl⟩ := wq_ex hw
    exact e
  unfold f_X11_countBits
  refine wq_for (fun (K : Int32 → Int32 → Option (jR Unit)) i (b : Int32) => K b i) 20 (fun i x => x = Int32.ofNat (cntB (bt w) i)) (fun rec i x hi hx ih => ?_) (fun rec x hx => ?_) 20 0 1000 0 (by omega) (by omega) rfl
  · have e : ((20 : Int32) ≤ Int32.ofNat i) = (20 ≤ i) := n32_le (n := 20) (by omega) (by omega)
    have hs : cntB (bt w) (i + 1) = cntB (bt w) i + if bt w i = true then 1 else 0 := rfl
    refine wq_ite (fun h => absurd (Eq.mp e h) (by omega)) (fun _ => wq_let ?_)
    rw [n32_succ]
    refine wq_let (ih _ ?_)
    rw [hs, hx]
    by_cases hb : bt w i = true
    · rw [if_pos hb, Eq.mpr (m_bit (show i < 32 by omega)) hb]
      exact n32_succ
    · rw [if_neg hb, Eq.mpr (m_bit0 (show i < 32 by omega)) (by simpa using hb)]
      exact Int32.add_zero _
  · exact wq_ite (fun _ => ⟨rfl, hx⟩) (fun h => absurd (by decide) h)
end POP
