section LOP
def lawStep (N : Nat) (xs : Nat → Int32) (i : Int32) (S : jS) (L : jLg) (w : Nat → Int64) (SM : jS) (rec : jS → jLg → (Nat → Int64) → jS → Option Int32) : Option Int32 :=
  if Int32.ofNat N - (6 : Int32) < i then some 1 else chk (inb i N) (if (xs i.toNatClampNeg &&& (31 : Int32)) = (0 : Int32) then lawC_0 N xs i S L w SM rec else if (xs i.toNatClampNeg &&& (31 : Int32)) = (1 : Int32) then lawC_1 N xs i S L w SM rec else if (xs i.toNatClampNeg &&& (31 : Int32)) = (2 : Int32) then lawC_2 N xs i S L w SM rec else if (xs i.toNatClampNeg &&& (31 : Int32)) = (3 : Int32) then lawC_3 N xs i S L w SM rec else if (xs i.toNatClampNeg &&& (31 : Int32)) = (4 : Int32) then lawC_4 N xs i S L w SM rec else if (xs i.toNatClampNeg &&& (31 : Int32)) = (5 : Int32) then lawC_5 N xs i S L w SM rec else if (xs i.toNatClampNeg &&& (31 : Int32)) = (6 : Int32) then lawC_6 N xs i S L w SM rec else if (xs i.toNatClampNeg &&& (31 : Int32)) = (7 : Int32) then lawC_7 N xs i S L w SM rec else if (xs i.toNatClampNeg &&& (31 : Int32)) = (8 : Int32) then lawC_8 N xs i S L w SM rec else if (xs i.toNatClampNeg &&& (31 : Int32)) = (9 : Int32) then lawC_9 N xs i S L w SM rec else if (xs i.toNatClampNeg &&& (31 : Int32)) = (10 : Int32) then lawC_10 N xs i S L w SM rec else if (xs i.toNatClampNeg &&& (31 : Int32)) = (11 : Int32) then lawC_11 N xs i S L w SM rec else if (xs i.toNatClampNeg &&& (31 : Int32)) = (12 : Int32) then lawC_12 N xs i S L w SM rec else if (xs i.toNatClampNeg &&& (31 : Int32)) = (13 : Int32) then lawC_13 N xs i S L w SM rec else if (xs i.toNatClampNeg &&& (31 : Int32)) = (14 : Int32) then lawC_14 N xs i S L w SM rec else if (xs i.toNatClampNeg &&& (31 : Int32)) = (15 : Int32) then lawC_15 N xs i S L w SM rec else if (xs i.toNatClampNeg &&& (31 : Int32)) = (16 : Int32) then lawC_16 N xs i S L w SM rec else if (xs i.toNatClampNeg &&& (31 : Int32)) = (17 : Int32) then lawC_17 N xs i S L w SM rec else if (xs i.toNatClampNeg &&& (31 : Int32)) = (18 : Int32) then lawC_18 N xs i S L w SM rec else if (xs i.toNatClampNeg &&& (31 : Int32)) = (19 : Int32) then lawC_19 N xs i S L w SM rec else if (xs i.toNatClampNeg &&& (31 : Int32)) = (20 : Int32) then lawC_20 N xs i S L w SM rec else if (xs i.toNatClampNeg &&& (31 : Int32)) = (21 : Int32) then lawC_21 N xs i S L w SM rec else if (xs i.toNatClampNeg &&& (31 : Int32)) = (22 : Int32) then lawC_22 N xs i S L w SM rec else if (xs i.toNatClampNeg &&& (31 : Int32)) = (23 : Int32) then lawC_23 N xs i S L w SM rec else if (xs i.toNatClampNeg &&& (31 : Int32)) = (24 : Int32) then lawC_24 N xs i S L w SM rec else if (xs i.toNatClampNeg &&& (31 : Int32)) = (25 : Int32) then lawC_25 N xs i S L w SM rec else if (xs i.toNatClampNeg &&& (31 : Int32)) = (26 : Int32) then lawC_26 N xs i S L w SM rec else if (xs i.toNatClampNeg &&& (31 : Int32)) = (27 : Int32) then lawC_27 N xs i S L w SM rec else if (xs i.toNatClampNeg &&& (31 : Int32)) = (28 : Int32) then lawC_28 N xs i S L w SM rec else if (xs i.toNatClampNeg &&& (31 : Int32)) = (29 : Int32) then lawC_29 S L w SM rec else if (xs i.toNatClampNeg &&& (31 : Int32)) = (30 : Int32) then lawC_30 N xs i S L w SM rec else rec S L w SM)
/-- the law: n turns at most, from the script's place i -/
def lawF (N : Nat) (xs : Nat → Int32) : Nat → Int32 → jS → jLg → (Nat → Int64) → jS → Option Int32
  | 0, _, _, _, _, _ => none
  | n + 1, i, S, L, w, SM => lawStep N xs i S L w SM (lawF N xs n (i + (6 : Int32)))
set_option maxHeartbeats 4000000 in
set_option maxRecDepth 100000 in
theorem c_law_step {κ : jCx} {Qf : Int32 → State → Prop} {b0 N : Nat} {xs : Nat → Int32} (X : jX κ RL code 7 (some .boolean)) {S SM : jS} {L : jLg} {w : Nat → Int64} {Xm : jMem} {i : Int32} {rec : jS → jLg → (Nat → Int64) → jS → Option Int32} (bc1 bs1 : Nat) (hI : GI (kS κ) (kD κ) (kB κ) (kT κ) b0 N xs SM L w Xm)
    (hend : ∀ (S : jS) (Xm : jMem) (bc bs : Nat) (lv : List (Nat × Value)), J κ 7 room_1 Qf (some 1) (memG 0 358 (kD κ) (kB κ) S Xm) (zD (kB κ)) bc bs lv 2312 [.int 1])
    (hrec : ∀ (S : jS) (L : jLg) (w : Nat → Int64) (SM : jS) (Xm : jMem), GI (kS κ) (kD κ) (kB κ) (kT κ) b0 N xs SM L w Xm → J κ 7 room_1 Qf (rec S L w SM) (memG 0 358 (kD κ) (kB κ) S Xm) (zD (kB κ)) bc1 bs1 [(0, .ref b0), (1, .ref (kB κ + 0)), (2, .ref (kB κ + 358)), (3, .ref (kB κ + 387)), (4, .int i)] 2305 []) :
    J κ 7 room_1 Qf (lawStep N xs i S L w SM rec) (memG 0 358 (kD κ) (kB κ) S Xm) (zD (kB κ)) (bc1 + 16) (bs1 + 3000) [(0, .ref b0), (1, .ref (kB κ + 0)), (2, .ref (kB κ + 358)), (3, .ref (kB κ + 387)), (4, .int i)] 23 [] := by
  unfold lawStep
  refine j_iload X 4 rfl dL_law_23 ?_
  refine j_aload_n X 0 rfl dL_law_25 rfl ?_
  refine r_len X hI dL_law_26 ?_
  refine j_bipush X (6 : Int32) dL_law_27 (by rfl) ?_
  refine j_isub X dL_law_29 ?_
  refine j_icmp_gt X 2311 dL_law_30 (by decide) ?_ ?_
  · refine j_iconst X (1 : Int32) dL_law_2311 (by rfl) ?_
    exact hend _ _ _ _ _
  · refine j_aload_n X 0 rfl dL_law_33 rfl ?_
    refine j_iload X 4 rfl dL_law_34 ?_
    refine r_scr X hI dL_law_36 ?_
    refine j_bipush X (31 : Int32) dL_law_37 (by rfl) ?_
    refine j_iand X dL_law_39 ?_
    refine j_ite (fun hc0 => ?_) (fun hc0 => ?_)
    · refine j_table (off := 140) X 180 dL_law_40 (by rw [hc0]; decide) (by rw [hc0]; decide) (by rw [hc0]; rfl) (by decide) ?_
      exact c_case_0 X bc1 bs1 hI hrec
    · skip
      refine j_ite (fun hc1 => ?_) (fun hc1 => ?_)
      · refine j_table (off := 220) X 260 dL_law_40 (by rw [hc1]; decide) (by rw [hc1]; decide) (by rw [hc1]; rfl) (by decide) ?_
        exact c_case_1 X bc1 bs1 hI hrec
      · skip
        refine j_ite (fun hc2 => ?_) (fun hc2 => ?_)
        · refine j_table (off := 323) X 363 dL_law_40 (by rw [hc2]; decide) (by rw [hc2]; decide) (by rw [hc2]; rfl) (by decide) ?_
          exact c_case_2 X bc1 bs1 hI hrec
        · skip
          refine j_ite (fun hc3 => ?_) (fun hc3 => ?_)
          · refine j_table (off := 391) X 431 dL_law_40 (by rw [hc3]; decide) (by rw [hc3]; decide) (by rw [hc3]; rfl) (by decide) ?_
            exact c_case_3 X bc1 bs1 hI hrec
          · skip
            refine j_ite (fun hc4 => ?_) (fun hc4 => ?_)
            · refine j_table (off := 459) X 499 dL_law_40 (by rw [hc4]; decide) (by rw [hc4]; decide) (by rw [hc4]; rfl) (by decide) ?_
              exact c_case_4 X bc1 bs1 hI hrec
            · skip
              refine j_ite (fun hc5 => ?_) (fun hc5 => ?_)
              · refine j_table (off := 527) X 567 dL_law_40 (by rw [hc5]; decide) (by rw [hc5]; decide) (by rw [hc5]; rfl) (by decide) ?_
                exact c_case_5 X bc1 bs1 hI hrec
              · skip
                refine j_ite (fun hc6 => ?_) (fun hc6 => ?_)
                · refine j_table (off := 583) X 623 dL_law_40 (by rw [hc6]; decide) (by rw [hc6]; decide) (by rw [hc6]; rfl) (by decide) ?_
                  exact c_case_6 X bc1 bs1 hI hrec
                · skip
                  refine j_ite (fun hc7 => ?_) (fun hc7 => ?_)
                  · refine j_table (off := 639) X 679 dL_law_40 (by rw [hc7]; decide) (by rw [hc7]; decide) (by rw [hc7]; rfl) (by decide) ?_
                    exact c_case_7 X bc1 bs1 hI hrec
                  · skip
                    refine j_ite (fun hc8 => ?_) (fun hc8 => ?_)
                    · refine j_table (off := 695) X 735 dL_law_40 (by rw [hc8]; decide) (by rw [hc8]; decide) (by rw [hc8]; rfl) (by decide) ?_
                      exact c_case_8 X bc1 bs1 hI hrec
                    · skip
                      refine j_ite (fun hc9 => ?_) (fun hc9 => ?_)
                      · refine j_table (off := 770) X 810 dL_law_40 (by rw [hc9]; decide) (by rw [hc9]; decide) (by rw [hc9]; rfl) (by decide) ?_
                        exact c_case_9 X bc1 bs1 hI hrec
                      · skip
                        refine j_ite (fun hc10 => ?_) (fun hc10 => ?_)
                        · refine j_table (off := 862) X 902 dL_law_40 (by rw [hc10]; decide) (by rw [hc10]; decide) (by rw [hc10]; rfl) (by decide) ?_
                          exact c_case_10 X bc1 bs1 hI hrec
                        · skip
                          refine j_ite (fun hc11 => ?_) (fun hc11 => ?_)
                          · refine j_table (off := 930) X 970 dL_law_40 (by rw [hc11]; decide) (by rw [hc11]; decide) (by rw [hc11]; rfl) (by decide) ?_
                            exact c_case_11 X bc1 bs1 hI hrec
                          · skip
                            refine j_ite (fun hc12 => ?_) (fun hc12 => ?_)
                            · refine j_table (off := 986) X 1026 dL_law_40 (by rw [hc12]; decide) (by rw [hc12]; decide) (by rw [hc12]; rfl) (by decide) ?_
                              exact c_case_12 X bc1 bs1 hI hrec
                            · skip
                              refine j_ite (fun hc13 => ?_) (fun hc13 => ?_)
                              · refine j_table (off := 1089) X 1129 dL_law_40 (by rw [hc13]; decide) (by rw [hc13]; decide) (by rw [hc13]; rfl) (by decide) ?_
                                exact c_case_13 X bc1 bs1 hI hrec
                              · skip
                                refine j_ite (fun hc14 => ?_) (fun hc14 => ?_)
                                · refine j_table (off := 1157) X 1197 dL_law_40 (by rw [hc14]; decide) (by rw [hc14]; decide) (by rw [hc14]; rfl) (by decide) ?_
                                  exact c_case_14 X bc1 bs1 hI hrec
                                · skip
                                  refine j_ite (fun hc15 => ?_) (fun hc15 => ?_)
                                  · refine j_table (off := 1225) X 1265 dL_law_40 (by rw [hc15]; decide) (by rw [hc15]; decide) (by rw [hc15]; rfl) (by decide) ?_
                                    exact c_case_15 X bc1 bs1 hI hrec
                                  · skip
                                    refine j_ite (fun hc16 => ?_) (fun hc16 => ?_)
                                    · refine j_table (off := 1293) X 1333 dL_law_40 (by rw [hc16]; decide) (by rw [hc16]; decide) (by rw [hc16]; rfl) (by decide) ?_
                                      exact c_case_16 X bc1 bs1 hI hrec
                                    · skip
                                      refine j_ite (fun hc17 => ?_) (fun hc17 => ?_)
                                      · refine j_table (off := 1361) X 1401 dL_law_40 (by rw [hc17]; decide) (by rw [hc17]; decide) (by rw [hc17]; rfl) (by decide) ?_
                                        exact c_case_17 X bc1 bs1 hI hrec
                                      · skip
                                        refine j_ite (fun hc18 => ?_) (fun hc18 => ?_)
                                        · refine j_table (off := 1429) X 1469 dL_law_40 (by rw [hc18]; decide) (by rw [hc18]; decide) (by rw [hc18]; rfl) (by decide) ?_
                                          exact c_case_18 X bc1 bs1 hI hrec
                                        · skip
                                          refine j_ite (fun hc19 => ?_) (fun hc19 => ?_)
                                          · refine j_table (off := 1533) X 1573 dL_law_40 (by rw [hc19]; decide) (by rw [hc19]; decide) (by rw [hc19]; rfl) (by decide) ?_
                                            exact c_case_19 X bc1 bs1 hI hrec
                                          · skip
                                            refine j_ite (fun hc20 => ?_) (fun hc20 => ?_)
                                            · refine j_table (off := 1601) X 1641 dL_law_40 (by rw [hc20]; decide) (by rw [hc20]; decide) (by rw [hc20]; rfl) (by decide) ?_
                                              exact c_case_20 X bc1 bs1 hI hrec
                                            · skip
                                              refine j_ite (fun hc21 => ?_) (fun hc21 => ?_)
                                              · refine j_table (off := 1669) X 1709 dL_law_40 (by rw [hc21]; decide) (by rw [hc21]; decide) (by rw [hc21]; rfl) (by decide) ?_
                                                exact c_case_21 X bc1 bs1 hI hrec
                                              · skip
                                                refine j_ite (fun hc22 => ?_) (fun hc22 => ?_)
                                                · refine j_table (off := 1725) X 1765 dL_law_40 (by rw [hc22]; decide) (by rw [hc22]; decide) (by rw [hc22]; rfl) (by decide) ?_
                                                  exact c_case_22 X bc1 bs1 hI hrec
                                                · skip
                                                  refine j_ite (fun hc23 => ?_) (fun hc23 => ?_)
                                                  · refine j_table (off := 1793) X 1833 dL_law_40 (by rw [hc23]; decide) (by rw [hc23]; decide) (by rw [hc23]; rfl) (by decide) ?_
                                                    exact c_case_23 X bc1 bs1 hI hrec
                                                  · skip
                                                    refine j_ite (fun hc24 => ?_) (fun hc24 => ?_)
                                                    · refine j_table (off := 1861) X 1901 dL_law_40 (by rw [hc24]; decide) (by rw [hc24]; decide) (by rw [hc24]; rfl) (by decide) ?_
                                                      exact c_case_24 X bc1 bs1 hI hrec
                                                    · skip
                                                      refine j_ite (fun hc25 => ?_) (fun hc25 => ?_)
                                                      · refine j_table (off := 1929) X 1969 dL_law_40 (by rw [hc25]; decide) (by rw [hc25]; decide) (by rw [hc25]; rfl) (by decide) ?_
                                                        exact c_case_25 X bc1 bs1 hI hrec
                                                      · skip
                                                        refine j_ite (fun hc26 => ?_) (fun hc26 => ?_)
                                                        · refine j_table (off := 1997) X 2037 dL_law_40 (by rw [hc26]; decide) (by rw [hc26]; decide) (by rw [hc26]; rfl) (by decide) ?_
                                                          exact c_case_26 X bc1 bs1 hI hrec
                                                        · skip
                                                          refine j_ite (fun hc27 => ?_) (fun hc27 => ?_)
                                                          · refine j_table (off := 2053) X 2093 dL_law_40 (by rw [hc27]; decide) (by rw [hc27]; decide) (by rw [hc27]; rfl) (by decide) ?_
                                                            exact c_case_27 X bc1 bs1 hI hrec
                                                          · skip
                                                            refine j_ite (fun hc28 => ?_) (fun hc28 => ?_)
                                                            · refine j_table (off := 2109) X 2149 dL_law_40 (by rw [hc28]; decide) (by rw [hc28]; decide) (by rw [hc28]; rfl) (by decide) ?_
                                                              exact c_case_28 X bc1 bs1 hI hrec
                                                            · skip
                                                              refine j_ite (fun hc29 => ?_) (fun hc29 => ?_)
                                                              · refine j_table (off := 2184) X 2224 dL_law_40 (by rw [hc29]; decide) (by rw [hc29]; decide) (by rw [hc29]; rfl) (by decide) ?_
                                                                exact c_case_29 X bc1 bs1 hI hrec
                                                              · skip
                                                                refine j_ite (fun hc30 => ?_) (fun hc30 => ?_)
                                                                · refine j_table (off := 2197) X 2237 dL_law_40 (by rw [hc30]; decide) (by rw [hc30]; decide) (by rw [hc30]; rfl) (by decide) ?_
                                                                  exact c_case_30 X bc1 bs1 hI hrec
                                                                · skip
                                                                  refine j_tableD X 2305 dL_law_40 (by have q0 := j_ne hc0 (a := 0) rfl; have q1 := j_ne hc1 (a := 1) rfl; have q2 := j_ne hc2 (a := 2) rfl; have q3 := j_ne hc3 (a := 3) rfl; have q4 := j_ne hc4 (a := 4) rfl; have q5 := j_ne hc5 (a := 5) rfl; have q6 := j_ne hc6 (a := 6) rfl; have q7 := j_ne hc7 (a := 7) rfl; have q8 := j_ne hc8 (a := 8) rfl; have q9 := j_ne hc9 (a := 9) rfl; have q10 := j_ne hc10 (a := 10) rfl; have q11 := j_ne hc11 (a := 11) rfl; have q12 := j_ne hc12 (a := 12) rfl; have q13 := j_ne hc13 (a := 13) rfl; have q14 := j_ne hc14 (a := 14) rfl; have q15 := j_ne hc15 (a := 15) rfl; have q16 := j_ne hc16 (a := 16) rfl; have q17 := j_ne hc17 (a := 17) rfl; have q18 := j_ne hc18 (a := 18) rfl; have q19 := j_ne hc19 (a := 19) rfl; have q20 := j_ne hc20 (a := 20) rfl; have q21 := j_ne hc21 (a := 21) rfl; have q22 := j_ne hc22 (a := 22) rfl; have q23 := j_ne hc23 (a := 23) rfl; have q24 := j_ne hc24 (a := 24) rfl; have q25 := j_ne hc25 (a := 25) rfl; have q26 := j_ne hc26 (a := 26) rfl; have q27 := j_ne hc27 (a := 27) rfl; have q28 := j_ne hc28 (a := 28) rfl; have q29 := j_ne hc29 (a := 29) rfl; have q30 := j_ne hc30 (a := 30) rfl; omega) (by decide) ?_
                                                                  exact j_bud (Nat.le_add_right _ _) (Nat.le_add_right _ _) (hrec S L w SM Xm hI)
theorem c_law_loop {κ : jCx} {Qf : Int32 → State → Prop} {b0 N : Nat} {xs : Nat → Int32} (X : jX κ RL code 7 (some .boolean)) (hend : ∀ (S : jS) (Xm : jMem) (bc bs : Nat) (lv : List (Nat × Value)), J κ 7 room_1 Qf (some 1) (memG 0 358 (kD κ) (kB κ) S Xm) (zD (kB κ)) bc bs lv 2312 [.int 1]) :
    ∀ (n : Nat) (i : Int32) (S : jS) (L : jLg) (w : Nat → Int64) (SM : jS) (Xm : jMem), GI (kS κ) (kD κ) (kB κ) (kT κ) b0 N xs SM L w Xm → J κ 7 room_1 Qf (lawF N xs n i S L w SM) (memG 0 358 (kD κ) (kB κ) S Xm) (zD (kB κ)) (16 * n) (3000 * n) [(0, .ref b0), (1, .ref (kB κ + 0)), (2, .ref (kB κ + 358)), (3, .ref (kB κ + 387)), (4, .int i)] 23 []
  | 0, _, _, _, _, _, _, _ => j_none
  | n + 1, i, S, L, w, SM, Xm, hI => c_law_step X (16 * n) (3000 * n) hI hend (fun S L w SM Xm hI => by
      refine j_iinc X 4 [(4, .int (i + (6 : Int32))), (0, .ref b0), (1, .ref (kB κ + 0)), (2, .ref (kB κ + 358)), (3, .ref (kB κ + 387))] dL_law_2305 rfl (by rfl) (by decide) rfl ?_
      refine j_goto X 23 dL_law_2308 (by decide) ?_
      refine j_lv [1, 2, 3, 4, 0] rfl ?_
      exact c_law_loop X hend n (i + (6 : Int32)) S L w SM Xm hI)
end LOP
