section STP
/-- a turn is its case -/
theorem step_P {N : Nat} {xs : Nat → Int32} {i : Nat} {S : jS} {L : jLg} {w : Nat → Int64} {SM : jS} {rec : jS → jLg → (Nat → Int64) → jS → Option Int32} {P : Option Int32 → Prop} (h : i + 6 ≤ N) (hN : N ≤ 3072) (h0 : P (lawC_0 N xs (Int32.ofNat i) S L w SM rec)) (h1 : P (lawC_1 N xs (Int32.ofNat i) S L w SM rec)) (h2 : P (lawC_2 N xs (Int32.ofNat i) S L w SM rec)) (h3 : P (lawC_3 N xs (Int32.ofNat i) S L w SM rec)) (h4 : P (lawC_4 N xs (Int32.ofNat i) S L w SM rec)) (h5 : P (lawC_5 N xs (Int32.ofNat i) S L w SM rec)) (h6 : P (lawC_6 N xs (Int32.ofNat i) S L w SM rec)) (h7 : P (lawC_7 N xs (Int32.ofNat i) S L w SM rec)) (h8 : P (lawC_8 N xs (Int32.ofNat i) S L w SM rec)) (h9 : P (lawC_9 N xs (Int32.ofNat i) S L w SM rec)) (h10 : P (lawC_10 N xs (Int32.ofNat i) S L w SM rec)) (h11 : P (lawC_11 N xs (Int32.ofNat i) S L w SM rec)) (h12 : P (lawC_12 N xs (Int32.ofNat i) S L w SM rec)) (h13 : P (lawC_13 N xs (Int32.ofNat i) S L w SM rec)) (h14 : P (lawC_14 N xs (Int32.ofNat i) S L w SM rec)) (h15 : P (lawC_15 N xs (Int32.ofNat i) S L w SM rec)) (h16 : P (lawC_16 N xs (Int32.ofNat i) S L w SM rec)) (h17 : P (lawC_17 N xs (Int32.ofNat i) S L w SM rec)) (h18 : P (lawC_18 N xs (Int32.ofNat i) S L w SM rec)) (h19 : P (lawC_19 N xs (Int32.ofNat i) S L w SM rec)) (h20 : P (lawC_20 N xs (Int32.ofNat i) S L w SM rec)) (h21 : P (lawC_21 N xs (Int32.ofNat i) S L w SM rec)) (h22 : P (lawC_22 N xs (Int32.ofNat i) S L w SM rec)) (h23 : P (lawC_23 N xs (Int32.ofNat i) S L w SM rec)) (h24 : P (lawC_24 N xs (Int32.ofNat i) S L w SM rec)) (h25 : P (lawC_25 N xs (Int32.ofNat i) S L w SM rec)) (h26 : P (lawC_26 N xs (Int32.ofNat i) S L w SM rec)) (h27 : P (lawC_27 N xs (Int32.ofNat i) S L w SM rec)) (h28 : P (lawC_28 N xs (Int32.ofNat i) S L w SM rec)) (h29 : P (lawC_29 S L w SM rec)) (h30 : P (lawC_30 N xs (Int32.ofNat i) S L w SM rec)) (hd : P (rec S L w SM)) : P (lawStep N xs (Int32.ofNat i) S L w SM rec) := by
  unfold lawStep
  rw [if_neg (fun h9 => by have := (n32_end (N := N) (i := i) (by omega) (by omega)).mp h9; omega), chk_t (scr_0 h hN)]
  by_cases e0 : (xs (Int32.ofNat i).toNatClampNeg &&& (31 : Int32)) = (0 : Int32)
  · rw [if_pos e0]
    exact h0
  rw [if_neg e0]
  by_cases e1 : (xs (Int32.ofNat i).toNatClampNeg &&& (31 : Int32)) = (1 : Int32)
  · rw [if_pos e1]
    exact h1
  rw [if_neg e1]
  by_cases e2 : (xs (Int32.ofNat i).toNatClampNeg &&& (31 : Int32)) = (2 : Int32)
  · rw [if_pos e2]
    exact h2
  rw [if_neg e2]
  by_cases e3 : (xs (Int32.ofNat i).toNatClampNeg &&& (31 : Int32)) = (3 : Int32)
  · rw [if_pos e3]
    exact h3
  rw [if_neg e3]
  by_cases e4 : (xs (Int32.ofNat i).toNatClampNeg &&& (31 : Int32)) = (4 : Int32)
  · rw [if_pos e4]
    exact h4
  rw [if_neg e4]
  by_cases e5 : (xs (Int32.ofNat i).toNatClampNeg &&& (31 : Int32)) = (5 : Int32)
  · rw [if_pos e5]
    exact h5
  rw [if_neg e5]
  by_cases e6 : (xs (Int32.ofNat i).toNatClampNeg &&& (31 : Int32)) = (6 : Int32)
  · rw [if_pos e6]
    exact h6
  rw [if_neg e6]
  by_cases e7 : (xs (Int32.ofNat i).toNatClampNeg &&& (31 : Int32)) = (7 : Int32)
  · rw [if_pos e7]
    exact h7
  rw [if_neg e7]
  by_cases e8 : (xs (Int32.ofNat i).toNatClampNeg &&& (31 : Int32)) = (8 : Int32)
  · rw [if_pos e8]
    exact h8
  rw [if_neg e8]
  by_cases e9 : (xs (Int32.ofNat i).toNatClampNeg &&& (31 : Int32)) = (9 : Int32)
  · rw [if_pos e9]
    exact h9
  rw [if_neg e9]
  by_cases e10 : (xs (Int32.ofNat i).toNatClampNeg &&& (31 : Int32)) = (10 : Int32)
  · rw [if_pos e10]
    exact h10
  rw [if_neg e10]
  by_cases e11 : (xs (Int32.ofNat i).toNatClampNeg &&& (31 : Int32)) = (11 : Int32)
  · rw [if_pos e11]
    exact h11
  rw [if_neg e11]
  by_cases e12 : (xs (Int32.ofNat i).toNatClampNeg &&& (31 : Int32)) = (12 : Int32)
  · rw [if_pos e12]
    exact h12
  rw [if_neg e12]
  by_cases e13 : (xs (Int32.ofNat i).toNatClampNeg &&& (31 : Int32)) = (13 : Int32)
  · rw [if_pos e13]
    exact h13
  rw [if_neg e13]
  by_cases e14 : (xs (Int32.ofNat i).toNatClampNeg &&& (31 : Int32)) = (14 : Int32)
  · rw [if_pos e14]
    exact h14
  rw [if_neg e14]
  by_cases e15 : (xs (Int32.ofNat i).toNatClampNeg &&& (31 : Int32)) = (15 : Int32)
  · rw [if_pos e15]
    exact h15
  rw [if_neg e15]
  by_cases e16 : (xs (Int32.ofNat i).toNatClampNeg &&& (31 : Int32)) = (16 : Int32)
  · rw [if_pos e16]
    exact h16
  rw [if_neg e16]
  by_cases e17 : (xs (Int32.ofNat i).toNatClampNeg &&& (31 : Int32)) = (17 : Int32)
  · rw [if_pos e17]
    exact h17
  rw [if_neg e17]
  by_cases e18 : (xs (Int32.ofNat i).toNatClampNeg &&& (31 : Int32)) = (18 : Int32)
  · rw [if_pos e18]
    exact h18
  rw [if_neg e18]
  by_cases e19 : (xs (Int32.ofNat i).toNatClampNeg &&& (31 : Int32)) = (19 : Int32)
  · rw [if_pos e19]
    exact h19
  rw [if_neg e19]
  by_cases e20 : (xs (Int32.ofNat i).toNatClampNeg &&& (31 : Int32)) = (20 : Int32)
  · rw [if_pos e20]
    exact h20
  rw [if_neg e20]
  by_cases e21 : (xs (Int32.ofNat i).toNatClampNeg &&& (31 : Int32)) = (21 : Int32)
  · rw [if_pos e21]
    exact h21
  rw [if_neg e21]
  by_cases e22 : (xs (Int32.ofNat i).toNatClampNeg &&& (31 : Int32)) = (22 : Int32)
  · rw [if_pos e22]
    exact h22
  rw [if_neg e22]
  by_cases e23 : (xs (Int32.ofNat i).toNatClampNeg &&& (31 : Int32)) = (23 : Int32)
  · rw [if_pos e23]
    exact h23
  rw [if_neg e23]
  by_cases e24 : (xs (Int32.ofNat i).toNatClampNeg &&& (31 : Int32)) = (24 : Int32)
  · rw [if_pos e24]
    exact h24
  rw [if_neg e24]
  by_cases e25 : (xs (Int32.ofNat i).toNatClampNeg &&& (31 : Int32)) = (25 : Int32)
  · rw [if_pos e25]
    exact h25
  rw [if_neg e25]
  by_cases e26 : (xs (Int32.ofNat i).toNatClampNeg &&& (31 : Int32)) = (26 : Int32)
  · rw [if_pos e26]
    exact h26
  rw [if_neg e26]
  by_cases e27 : (xs (Int32.ofNat i).toNatClampNeg &&& (31 : Int32)) = (27 : Int32)
  · rw [if_pos e27]
    exact h27
  rw [if_neg e27]
  by_cases e28 : (xs (Int32.ofNat i).toNatClampNeg &&& (31 : Int32)) = (28 : Int32)
  · rw [if_pos e28]
    exact h28
  rw [if_neg e28]
  by_cases e29 : (xs (Int32.ofNat i).toNatClampNeg &&& (31 : Int32)) = (29 : Int32)
  · rw [if_pos e29]
    exact h29
  rw [if_neg e29]
  by_cases e30 : (xs (Int32.ofNat i).toNatClampNeg &&& (31 : Int32)) = (30 : Int32)
  · rw [if_pos e30]
    exact h30
  rw [if_neg e30]
  exact hd
end STP
