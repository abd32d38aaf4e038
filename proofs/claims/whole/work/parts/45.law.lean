section GLW
theorem lg_cmp0 {x y : Int64} : lg_cmp x y = 0 ↔ x = y := by
  unfold lg_cmp
  by_cases h1 : x = y
  · simp [h1]
  · by_cases h2 : y < x <;> simp [h1, h2]
def lawC_0 (N : Nat) (xs : Nat → Int32) (i : Int32) (S : jS) (L : jLg) (w : Nat → Int64) (SM : jS) (rec : jS → jLg → (Nat → Int64) → jS → Option Int32) : Option Int32 := chk (inb (i + (1 : Int32)) N) (chk (inb (i + (2 : Int32)) N) (chk (inb (i + (3 : Int32)) N) (jbin0 (f_L_setAttribute S L w (xs (i + (1 : Int32)).toNatClampNeg) (xs (i + (2 : Int32)).toNatClampNeg) (xs (i + (3 : Int32)).toNatClampNeg)) (fun v S1 => chk (inb (i + (1 : Int32)) N) (chk (inb (i + (2 : Int32)) N) (chk (inb (i + (3 : Int32)) N) (jbin0 (f_X11_setAttribute SM (xs (i + (1 : Int32)).toNatClampNeg) (xs (i + (2 : Int32)).toNatClampNeg) (xs (i + (3 : Int32)).toNatClampNeg)) (fun v2 SM1 => jbin0 (f_X11_thrown SM1) (fun v3 _ => if v3 = v then (if v = 0 then (if S1.2.2 0 = v2.toInt64 then rec S1.1 S1.2.1 S1.2.2 SM1 else none) else rec S1.1 S1.2.1 S1.2.2 SM1) else none)))))))))
set_option maxHeartbeats 4000000 in
set_option maxRecDepth 100000 in
theorem c_case_0 {κ : jCx} {Qf : Int32 → State → Prop} {b0 N : Nat} {xs : Nat → Int32} {S SM : jS} {L : jLg} {w : Nat → Int64} {Xm : jMem} {i : Int32} {rec : jS → jLg → (Nat → Int64) → jS → Option Int32} (X : jX κ RL code 7 (some .boolean)) (bc1 bs1 : Nat) (hI : GI (kS κ) (kD κ) (kB κ) (kT κ) b0 N xs SM L w Xm) (hrec : ∀ (S : jS) (L : jLg) (w : Nat → Int64) (SM : jS) (Xm : jMem), GI (kS κ) (kD κ) (kB κ) (kT κ) b0 N xs SM L w Xm → J κ 7 room_1 Qf (rec S L w SM) (memG 0 358 (kD κ) (kB κ) S Xm) (zD (kB κ)) bc1 bs1 [(0, .ref b0), (1, .ref (kB κ + 0)), (2, .ref (kB κ + 358)), (3, .ref (kB κ + 387)), (4, .int i)] 2305 []) : J κ 7 room_1 Qf (lawC_0 N xs i S L w SM rec) (memG 0 358 (kD κ) (kB κ) S Xm) (zD (kB κ)) (bc1 + 16) (bs1 + 3000) [(0, .ref b0), (1, .ref (kB κ + 0)), (2, .ref (kB κ + 358)), (3, .ref (kB κ + 387)), (4, .int i)] 180 [] := by
  unfold lawC_0
  refine j_aload_n X 1 rfl dL_law_180 rfl ?_
  refine j_aload_n X 0 rfl dL_law_181 rfl ?_
  refine j_iload X 4 rfl dL_law_182 ?_
  refine j_iconst X (1 : Int32) dL_law_184 (by rfl) ?_
  refine j_iadd X dL_law_185 ?_
  refine r_scr X hI dL_law_186 ?_
  refine j_aload_n X 0 rfl dL_law_187 rfl ?_
  refine j_iload X 4 rfl dL_law_188 ?_
  refine j_iconst X (2 : Int32) dL_law_190 (by rfl) ?_
  refine j_iadd X dL_law_191 ?_
  refine r_scr X hI dL_law_192 ?_
  refine j_aload_n X 0 rfl dL_law_193 rfl ?_
  refine j_iload X 4 rfl dL_law_194 ?_
  refine j_iconst X (3 : Int32) dL_law_196 (by rfl) ?_
  refine j_iadd X dL_law_197 ?_
  refine r_scr X hI dL_law_198 ?_
  refine j_aload_n X 3 rfl dL_law_199 rfl ?_
  refine r_callL X bc1 bs1 hI (c_L_setAttribute X.tr S Xm L w hI.2.1 hI.2.2.1 ((xs (i + (1 : Int32)).toNatClampNeg)) ((xs (i + (2 : Int32)).toNatClampNeg)) ((xs (i + (3 : Int32)).toNatClampNeg))) mh_L_setAttribute ml_L_116 st_L_setAttribute dL_law_200 (rest := []) rfl rfl ⟨Nat.le_of_ble_eq_true rfl, Nat.le_of_ble_eq_true rfl⟩ ⟨by show 3 + _ ≤ _; omega, by show 18 + _ ≤ _; omega⟩ (Nat.le_of_ble_eq_true rfl) (fun v S1 X1 hI1 => ?_)
  refine j_istore X [(5, .int v), (0, .ref b0), (1, .ref (kB κ + 0)), (2, .ref (kB κ + 358)), (3, .ref (kB κ + 387)), (4, .int i)] dL_law_203 (by decide) rfl ?_
  refine j_aload_n X 3 rfl dL_law_205 rfl ?_
  refine j_aload_n X 1 rfl dL_law_206 rfl ?_
  refine j_iload X 5 rfl dL_law_207 ?_
  refine j_iconst X (1 : Int32) dL_law_209 (by rfl) ?_
  refine j_iadd X dL_law_210 ?_
  refine r_scr X hI1 dL_law_211 ?_
  refine j_aload_n X 1 rfl dL_law_212 rfl ?_
  refine j_iload X 5 rfl dL_law_213 ?_
  refine j_iconst X (2 : Int32) dL_law_215 (by rfl) ?_
  refine j_iadd X dL_law_216 ?_
  refine r_scr X hI1 dL_law_217 ?_
  refine j_aload_n X 1 rfl dL_law_218 rfl ?_
  refine j_iload X 5 rfl dL_law_219 ?_
  refine j_iconst X (3 : Int32) dL_law_221 (by rfl) ?_
  refine j_iadd X dL_law_222 ?_
  refine r_scr X hI1 dL_law_223 ?_
  refine r_callM X bc1 bs1 hI1 (c_X11_setAttribute X.tr SM _ (zD (kB κ)) ((xs (i + (1 : Int32)).toNatClampNeg)) ((xs (i + (2 : Int32)).toNatClampNeg)) ((xs (i + (3 : Int32)).toNatClampNeg))) me_X11_setAttribute ml_L_121 iv_X11_setAttribute rfl dL_law_224 (rest := []) rfl rfl ⟨Nat.le_of_ble_eq_true rfl, Nat.le_of_ble_eq_true rfl⟩ ⟨by show 0 + _ ≤ _; omega, by show 0 + _ ≤ _; omega⟩ (Nat.le_of_ble_eq_true rfl) (fun v2 SM1 X2 hI2 => ?_)
  refine j_istore X [(6, .int v2), (5, .int v), (0, .ref b0), (1, .ref (kB κ + 0)), (2, .ref (kB κ + 358)), (3, .ref (kB κ + 387)), (4, .int i)] dL_law_227 (by decide) rfl ?_
  refine j_aload_n X 4 rfl dL_law_229 rfl ?_
  refine r_callN X bc1 bs1 hI2 (c_X11_thrown X.tr SM1 _ (zD (kB κ))) me_X11_thrown ml_L_122 iv_X11_thrown rfl dL_law_230 (rest := []) rfl rfl ⟨Nat.le_of_ble_eq_true rfl, Nat.le_of_ble_eq_true rfl⟩ ⟨by show 0 + _ ≤ _; omega, by show 0 + _ ≤ _; omega⟩ (Nat.le_of_ble_eq_true rfl) (fun v3 u3 => ?_)
  refine j_iload X 1 rfl dL_law_233 ?_
  refine j_icmp_eq X 240 dL_law_235 (by decide) ?_ j_none
  refine j_iload X 1 rfl dL_law_240 ?_
  refine j_if_ne X 257 dL_law_242 (by decide) ?_ ?_
  · refine j_aload_n X 5 rfl dL_law_245 rfl ?_
    refine j_iconst X (0 : Int32) dL_law_246 (by rfl) ?_
    refine r_out X hI2 dL_law_247 ?_
    refine j_iload X 0 rfl dL_law_248 ?_
    refine j_i2l X dL_law_250 ?_
    refine j_lcmp X dL_law_251 ?_
    refine jh_if_eq X 257 dL_law_252 (by decide) (fun hc9 => ?_) (fun hc9 => j_eq (if_neg (fun e9 => hc9 (lg_cmp0.mpr e9))) j_none)
    refine j_eq (if_pos (lg_cmp0.mp hc9)) ?_
    refine j_goto X 2305 dL_law_257 (by decide) ?_
    refine j_lv [2, 3, 4, 5, 6] rfl ?_
    exact hrec _ _ _ _ _ hI2
  · refine j_goto X 2305 dL_law_257 (by decide) ?_
    refine j_lv [2, 3, 4, 5, 6] rfl ?_
    exact hrec _ _ _ _ _ hI2
def lawC_1 (N : Nat) (xs : Nat → Int32) (i : Int32) (S : jS) (L : jLg) (w : Nat → Int64) (SM : jS) (rec : jS → jLg → (Nat → Int64) → jS → Option Int32) : Option Int32 := chk (inb (i + (1 : Int32)) N) (chk (inb (i + (2 : Int32)) N) (chk (inb (i + (3 : Int32)) N) (jbin0 (f_L_setTag S L w (xs (i + (1 : Int32)).toNatClampNeg) (xs (i + (2 : Int32)).toNatClampNeg) (bz (xs (i + (3 : Int32)).toNatClampNeg))) (fun v S1 => chk (inb (i + (1 : Int32)) N) (chk (inb (i + (2 : Int32)) N) (chk (inb (i + (3 : Int32)) N) (jbin0 (f_X11_setTag SM (xs (i + (1 : Int32)).toNatClampNeg) (xs (i + (2 : Int32)).toNatClampNeg) (bz (xs (i + (3 : Int32)).toNatClampNeg))) (fun v2 SM1 => jbin0 (f_X11_thrown SM1) (fun v3 _ => if v3 = v then (if v = 0 then (if S1.2.2 0 = zl v2 then rec S1.1 S1.2.1 S1.2.2 SM1 else none) else rec S1.1 S1.2.1 S1.2.2 SM1) else none)))))))))
set_option maxHeartbeats 4000000 in
set_option maxRecDepth 100000 in
theorem c_case_1 {κ : jCx} {Qf : Int32 → State → Prop} {b0 N : Nat} {xs : Nat → Int32} {S SM : jS} {L : jLg} {w : Nat → Int64} {Xm : jMem} {i : Int32} {rec : jS → jLg → (Nat → Int64) → jS → Option Int32} (X : jX κ RL code 7 (some .boolean)) (bc1 bs1 : Nat) (hI : GI (kS κ) (kD κ) (kB κ) (kT κ) b0 N xs SM L w Xm) (hrec : ∀ (S : jS) (L : jLg) (w : Nat → Int64) (SM : jS) (Xm : jMem), GI (kS κ) (kD κ) (kB κ) (kT κ) b0 N xs SM L w Xm → J κ 7 room_1 Qf (rec S L w SM) (memG 0 358 (kD κ) (kB κ) S Xm) (zD (kB κ)) bc1 bs1 [(0, .ref b0), (1, .ref (kB κ + 0)), (2, .ref (kB κ + 358)), (3, .ref (kB κ + 387)), (4, .int i)] 2305 []) : J κ 7 room_1 Qf (lawC_1 N xs i S L w SM rec) (memG 0 358 (kD κ) (kB κ) S Xm) (zD (kB κ)) (bc1 + 16) (bs1 + 3000) [(0, .ref b0), (1, .ref (kB κ + 0)), (2, .ref (kB κ + 358)), (3, .ref (kB κ + 387)), (4, .int i)] 260 [] := by
  unfold lawC_1
  refine j_aload_n X 1 rfl dL_law_260 rfl ?_
  refine j_aload_n X 0 rfl dL_law_261 rfl ?_
  refine j_iload X 4 rfl dL_law_262 ?_
  refine j_iconst X (1 : Int32) dL_law_264 (by rfl) ?_
  refine j_iadd X dL_law_265 ?_
  refine r_scr X hI dL_law_266 ?_
  refine j_aload_n X 0 rfl dL_law_267 rfl ?_
  refine j_iload X 4 rfl dL_law_268 ?_
  refine j_iconst X (2 : Int32) dL_law_270 (by rfl) ?_
  refine j_iadd X dL_law_271 ?_
  refine r_scr X hI dL_law_272 ?_
  refine j_aload_n X 0 rfl dL_law_273 rfl ?_
  refine j_iload X 4 rfl dL_law_274 ?_
  refine j_iconst X (3 : Int32) dL_law_276 (by rfl) ?_
  refine j_iadd X dL_law_277 ?_
  refine r_scr X hI dL_law_278 ?_
  refine jh_if_eq X 286 dL_law_279 (by decide) (fun hz9 => ?_) (fun hz9 => ?_)
  · rw [show bz ((xs (i + (3 : Int32)).toNatClampNeg)) = 0 from if_pos hz9]
    refine j_iconst X (0 : Int32) dL_law_286 (by rfl) ?_
    refine j_aload_n X 3 rfl dL_law_287 rfl ?_
    refine r_callL X bc1 bs1 hI (c_L_setTag X.tr S Xm L w hI.2.1 hI.2.2.1 ((xs (i + (1 : Int32)).toNatClampNeg)) ((xs (i + (2 : Int32)).toNatClampNeg)) (0 : Int32)) mh_L_setTag ml_L_126 st_L_setTag dL_law_288 (rest := []) rfl rfl ⟨Nat.le_of_ble_eq_true rfl, Nat.le_of_ble_eq_true rfl⟩ ⟨by show 2 + _ ≤ _; omega, by show 12 + _ ≤ _; omega⟩ (Nat.le_of_ble_eq_true rfl) (fun v S1 X1 hI1 => ?_)
    refine j_istore X [(5, .int v), (0, .ref b0), (1, .ref (kB κ + 0)), (2, .ref (kB κ + 358)), (3, .ref (kB κ + 387)), (4, .int i)] dL_law_291 (by decide) rfl ?_
    refine j_aload_n X 3 rfl dL_law_293 rfl ?_
    refine j_aload_n X 1 rfl dL_law_294 rfl ?_
    refine j_iload X 5 rfl dL_law_295 ?_
    refine j_iconst X (1 : Int32) dL_law_297 (by rfl) ?_
    refine j_iadd X dL_law_298 ?_
    refine r_scr X hI1 dL_law_299 ?_
    refine j_aload_n X 1 rfl dL_law_300 rfl ?_
    refine j_iload X 5 rfl dL_law_301 ?_
    refine j_iconst X (2 : Int32) dL_law_303 (by rfl) ?_
    refine j_iadd X dL_law_304 ?_
    refine r_scr X hI1 dL_law_305 ?_
    refine j_aload_n X 1 rfl dL_law_306 rfl ?_
    refine j_iload X 5 rfl dL_law_307 ?_
    refine j_iconst X (3 : Int32) dL_law_309 (by rfl) ?_
    refine j_iadd X dL_law_310 ?_
    refine r_scr X hI1 dL_law_311 ?_
    refine jh_if_eq X 319 dL_law_312 (by decide) (fun _ => ?_) (fun h9 => absurd hz9 h9)
    refine j_iconst X (0 : Int32) dL_law_319 (by rfl) ?_
    refine r_callM X bc1 bs1 hI1 (c_X11_setTag X.tr SM _ (zD (kB κ)) ((xs (i + (1 : Int32)).toNatClampNeg)) ((xs (i + (2 : Int32)).toNatClampNeg)) (0 : Int32)) me_X11_setTag ml_L_129 iv_X11_setTag rfl dL_law_320 (rest := []) rfl rfl ⟨Nat.le_of_ble_eq_true rfl, Nat.le_of_ble_eq_true rfl⟩ ⟨by show 0 + _ ≤ _; omega, by show 0 + _ ≤ _; omega⟩ (Nat.le_of_ble_eq_true rfl) (fun v2 SM1 X2 hI2 => ?_)
    refine j_istore X [(6, .int v2), (5, .int v), (0, .ref b0), (1, .ref (kB κ + 0)), (2, .ref (kB κ + 358)), (3, .ref (kB κ + 387)), (4, .int i)] dL_law_323 (by decide) rfl ?_
    refine j_aload_n X 4 rfl dL_law_325 rfl ?_
    refine r_callN X bc1 bs1 hI2 (c_X11_thrown X.tr SM1 _ (zD (kB κ))) me_X11_thrown ml_L_122 iv_X11_thrown rfl dL_law_326 (rest := []) rfl rfl ⟨Nat.le_of_ble_eq_true rfl, Nat.le_of_ble_eq_true rfl⟩ ⟨by show 0 + _ ≤ _; omega, by show 0 + _ ≤ _; omega⟩ (Nat.le_of_ble_eq_true rfl) (fun v3 u3 => ?_)
    refine j_iload X 1 rfl dL_law_329 ?_
    refine j_icmp_eq X 336 dL_law_331 (by decide) ?_ j_none
    refine j_iload X 1 rfl dL_law_336 ?_
    refine j_if_ne X 360 dL_law_338 (by decide) ?_ ?_
    · refine j_aload_n X 5 rfl dL_law_341 rfl ?_
      refine j_iconst X (0 : Int32) dL_law_342 (by rfl) ?_
      refine r_out X hI2 dL_law_343 ?_
      refine j_iload X 0 rfl dL_law_344 ?_
      refine jh_if_eq X 353 dL_law_346 (by decide) (fun hz8 => ?_) (fun hz8 => ?_)
      · rw [show zl v2 = 0 from if_pos hz8]
        refine j_lconst X (0 : Int64) dL_law_353 (by rfl) ?_
        refine j_lcmp X dL_law_354 ?_
        refine jh_if_eq X 360 dL_law_355 (by decide) (fun hc9 => ?_) (fun hc9 => j_eq (if_neg (fun e9 => hc9 (lg_cmp0.mpr e9))) j_none)
        refine j_eq (if_pos (lg_cmp0.mp hc9)) ?_
        refine j_goto X 2305 dL_law_360 (by decide) ?_
        refine j_lv [2, 3, 4, 5, 6] rfl ?_
        exact hrec _ _ _ _ _ hI2
      · rw [show zl v2 = 1 from if_neg hz8]
        refine j_lconst X (1 : Int64) dL_law_349 (by rfl) ?_
        refine j_goto X 354 dL_law_350 (by decide) ?_
        refine j_lcmp X dL_law_354 ?_
        refine jh_if_eq X 360 dL_law_355 (by decide) (fun hc9 => ?_) (fun hc9 => j_eq (if_neg (fun e9 => hc9 (lg_cmp0.mpr e9))) j_none)
        refine j_eq (if_pos (lg_cmp0.mp hc9)) ?_
        refine j_goto X 2305 dL_law_360 (by decide) ?_
        refine j_lv [2, 3, 4, 5, 6] rfl ?_
        exact hrec _ _ _ _ _ hI2
    · refine j_goto X 2305 dL_law_360 (by decide) ?_
      refine j_lv [2, 3, 4, 5, 6] rfl ?_
      exact hrec _ _ _ _ _ hI2
  · rw [show bz ((xs (i + (3 : Int32)).toNatClampNeg)) = 1 from if_neg hz9]
    refine j_iconst X (1 : Int32) dL_law_282 (by rfl) ?_
    refine j_goto X 287 dL_law_283 (by decide) ?_
    refine j_aload_n X 3 rfl dL_law_287 rfl ?_
    refine r_callL X bc1 bs1 hI (c_L_setTag X.tr S Xm L w hI.2.1 hI.2.2.1 ((xs (i + (1 : Int32)).toNatClampNeg)) ((xs (i + (2 : Int32)).toNatClampNeg)) (1 : Int32)) mh_L_setTag ml_L_126 st_L_setTag dL_law_288 (rest := []) rfl rfl ⟨Nat.le_of_ble_eq_true rfl, Nat.le_of_ble_eq_true rfl⟩ ⟨by show 2 + _ ≤ _; omega, by show 12 + _ ≤ _; omega⟩ (Nat.le_of_ble_eq_true rfl) (fun v S1 X1 hI1 => ?_)
    refine j_istore X [(5, .int v), (0, .ref b0), (1, .ref (kB κ + 0)), (2, .ref (kB κ + 358)), (3, .ref (kB κ + 387)), (4, .int i)] dL_law_291 (by decide) rfl ?_
    refine j_aload_n X 3 rfl dL_law_293 rfl ?_
    refine j_aload_n X 1 rfl dL_law_294 rfl ?_
    refine j_iload X 5 rfl dL_law_295 ?_
    refine j_iconst X (1 : Int32) dL_law_297 (by rfl) ?_
    refine j_iadd X dL_law_298 ?_
    refine r_scr X hI1 dL_law_299 ?_
    refine j_aload_n X 1 rfl dL_law_300 rfl ?_
    refine j_iload X 5 rfl dL_law_301 ?_
    refine j_iconst X (2 : Int32) dL_law_303 (by rfl) ?_
    refine j_iadd X dL_law_304 ?_
    refine r_scr X hI1 dL_law_305 ?_
    refine j_aload_n X 1 rfl dL_law_306 rfl ?_
    refine j_iload X 5 rfl dL_law_307 ?_
    refine j_iconst X (3 : Int32) dL_law_309 (by rfl) ?_
    refine j_iadd X dL_law_310 ?_
    refine r_scr X hI1 dL_law_311 ?_
    refine jh_if_eq X 319 dL_law_312 (by decide) (fun h9 => absurd h9 hz9) (fun _ => ?_)
    refine j_iconst X (1 : Int32) dL_law_315 (by rfl) ?_
    refine j_goto X 320 dL_law_316 (by decide) ?_
    refine r_callM X bc1 bs1 hI1 (c_X11_setTag X.tr SM _ (zD (kB κ)) ((xs (i + (1 : Int32)).toNatClampNeg)) ((xs (i + (2 : Int32)).toNatClampNeg)) (1 : Int32)) me_X11_setTag ml_L_129 iv_X11_setTag rfl dL_law_320 (rest := []) rfl rfl ⟨Nat.le_of_ble_eq_true rfl, Nat.le_of_ble_eq_true rfl⟩ ⟨by show 0 + _ ≤ _; omega, by show 0 + _ ≤ _; omega⟩ (Nat.le_of_ble_eq_true rfl) (fun v2 SM1 X2 hI2 => ?_)
    refine j_istore X [(6, .int v2), (5, .int v), (0, .ref b0), (1, .ref (kB κ + 0)), (2, .ref (kB κ + 358)), (3, .ref (kB κ + 387)), (4, .int i)] dL_law_323 (by decide) rfl ?_
    refine j_aload_n X 4 rfl dL_law_325 rfl ?_
    refine r_callN X bc1 bs1 hI2 (c_X11_thrown X.tr SM1 _ (zD (kB κ))) me_X11_thrown ml_L_122 iv_X11_thrown rfl dL_law_326 (rest := []) rfl rfl ⟨Nat.le_of_ble_eq_true rfl, Nat.le_of_ble_eq_true rfl⟩ ⟨by show 0 + _ ≤ _; omega, by show 0 + _ ≤ _; omega⟩ (Nat.le_of_ble_eq_true rfl) (fun v3 u3 => ?_)
    refine j_iload X 1 rfl dL_law_329 ?_
    refine j_icmp_eq X 336 dL_law_331 (by decide) ?_ j_none
    refine j_iload X 1 rfl dL_law_336 ?_
    refine j_if_ne X 360 dL_law_338 (by decide) ?_ ?_
    · refine j_aload_n X 5 rfl dL_law_341 rfl ?_
      refine j_iconst X (0 : Int32) dL_law_342 (by rfl) ?_
      refine r_out X hI2 dL_law_343 ?_
      refine j_iload X 0 rfl dL_law_344 ?_
      refine jh_if_eq X 353 dL_law_346 (by decide) (fun hz8 => ?_) (fun hz8 => ?_)
      · rw [show zl v2 = 0 from if_pos hz8]
        refine j_lconst X (0 : Int64) dL_law_353 (by rfl) ?_
        refine j_lcmp X dL_law_354 ?_
        refine jh_if_eq X 360 dL_law_355 (by decide) (fun hc9 => ?_) (fun hc9 => j_eq (if_neg (fun e9 => hc9 (lg_cmp0.mpr e9))) j_none)
        refine j_eq (if_pos (lg_cmp0.mp hc9)) ?_
        refine j_goto X 2305 dL_law_360 (by decide) ?_
        refine j_lv [2, 3, 4, 5, 6] rfl ?_
        exact hrec _ _ _ _ _ hI2
      · rw [show zl v2 = 1 from if_neg hz8]
        refine j_lconst X (1 : Int64) dL_law_349 (by rfl) ?_
        refine j_goto X 354 dL_law_350 (by decide) ?_
        refine j_lcmp X dL_law_354 ?_
        refine jh_if_eq X 360 dL_law_355 (by decide) (fun hc9 => ?_) (fun hc9 => j_eq (if_neg (fun e9 => hc9 (lg_cmp0.mpr e9))) j_none)
        refine j_eq (if_pos (lg_cmp0.mp hc9)) ?_
        refine j_goto X 2305 dL_law_360 (by decide) ?_
        refine j_lv [2, 3, 4, 5, 6] rfl ?_
        exact hrec _ _ _ _ _ hI2
    · refine j_goto X 2305 dL_law_360 (by decide) ?_
      refine j_lv [2, 3, 4, 5, 6] rfl ?_
      exact hrec _ _ _ _ _ hI2
def lawC_2 (N : Nat) (xs : Nat → Int32) (i : Int32) (S : jS) (L : jLg) (w : Nat → Int64) (SM : jS) (rec : jS → jLg → (Nat → Int64) → jS → Option Int32) : Option Int32 := chk (inb (i + (1 : Int32)) N) (chk (inb (i + (2 : Int32)) N) (jbin0 (f_L_type S L w (xs (i + (1 : Int32)).toNatClampNeg) (xs (i + (2 : Int32)).toNatClampNeg)) (fun v S1 => chk (inb (i + (1 : Int32)) N) (chk (inb (i + (2 : Int32)) N) (jbin0 (f_X11_type SM (xs (i + (1 : Int32)).toNatClampNeg) (xs (i + (2 : Int32)).toNatClampNeg)) (fun v2 SM1 => jbin0 (f_X11_thrown SM1) (fun v3 _ => if v3 = v then (if v = 0 then (if S1.2.2 0 = v2.toInt64 then rec S1.1 S1.2.1 S1.2.2 SM1 else none) else rec S1.1 S1.2.1 S1.2.2 SM1) else none)))))))
set_option maxHeartbeats 4000000 in
set_option maxRecDepth 100000 in
theorem c_case_2 {κ : jCx} {Qf : Int32 → State → Prop} {b0 N : Nat} {xs : Nat → Int32} {S SM : jS} {L : jLg} {w : Nat → Int64} {Xm : jMem} {i : Int32} {rec : jS → jLg → (Nat → Int64) → jS → Option Int32} (X : jX κ RL code 7 (some .boolean)) (bc1 bs1 : Nat) (hI : GI (kS κ) (kD κ) (kB κ) (kT κ) b0 N xs SM L w Xm) (hrec : ∀ (S : jS) (L : jLg) (w : Nat → Int64) (SM : jS) (Xm : jMem), GI (kS κ) (kD κ) (kB κ) (kT κ) b0 N xs SM L w Xm → J κ 7 room_1 Qf (rec S L w SM) (memG 0 358 (kD κ) (kB κ) S Xm) (zD (kB κ)) bc1 bs1 [(0, .ref b0), (1, .ref (kB κ + 0)), (2, .ref (kB κ + 358)), (3, .ref (kB κ + 387)), (4, .int i)] 2305 []) : J κ 7 room_1 Qf (lawC_2 N xs i S L w SM rec) (memG 0 358 (kD κ) (kB κ) S Xm) (zD (kB κ)) (bc1 + 16) (bs1 + 3000) [(0, .ref b0), (1, .ref (kB κ + 0)), (2, .ref (kB κ + 358)), (3, .ref (kB κ + 387)), (4, .int i)] 363 [] := by
  unfold lawC_2
  refine j_aload_n X 1 rfl dL_law_363 rfl ?_
  refine j_aload_n X 0 rfl dL_law_364 rfl ?_
  refine j_iload X 4 rfl dL_law_365 ?_
  refine j_iconst X (1 : Int32) dL_law_367 (by rfl) ?_
  refine j_iadd X dL_law_368 ?_
  refine r_scr X hI dL_law_369 ?_
  refine j_aload_n X 0 rfl dL_law_370 rfl ?_
  refine j_iload X 4 rfl dL_law_371 ?_
  refine j_iconst X (2 : Int32) dL_law_373 (by rfl) ?_
  refine j_iadd X dL_law_374 ?_
  refine r_scr X hI dL_law_375 ?_
  refine j_aload_n X 3 rfl dL_law_376 rfl ?_
  refine r_callL X bc1 bs1 hI (c_L_type X.tr S Xm L w hI.2.1 hI.2.2.1 ((xs (i + (1 : Int32)).toNatClampNeg)) ((xs (i + (2 : Int32)).toNatClampNeg))) mh_L_type ml_L_130 st_L_type dL_law_377 (rest := []) rfl rfl ⟨Nat.le_of_ble_eq_true rfl, Nat.le_of_ble_eq_true rfl⟩ ⟨by show 3 + _ ≤ _; omega, by show 18 + _ ≤ _; omega⟩ (Nat.le_of_ble_eq_true rfl) (fun v S1 X1 hI1 => ?_)
  refine j_istore X [(5, .int v), (0, .ref b0), (1, .ref (kB κ + 0)), (2, .ref (kB κ + 358)), (3, .ref (kB κ + 387)), (4, .int i)] dL_law_380 (by decide) rfl ?_
  refine j_aload_n X 3 rfl dL_law_382 rfl ?_
  refine j_aload_n X 1 rfl dL_law_383 rfl ?_
  refine j_iload X 5 rfl dL_law_384 ?_
  refine j_iconst X (1 : Int32) dL_law_386 (by rfl) ?_
  refine j_iadd X dL_law_387 ?_
  refine r_scr X hI1 dL_law_388 ?_
  refine j_aload_n X 1 rfl dL_law_389 rfl ?_
  refine j_iload X 5 rfl dL_law_390 ?_
  refine j_iconst X (2 : Int32) dL_law_392 (by rfl) ?_
  refine j_iadd X dL_law_393 ?_
  refine r_scr X hI1 dL_law_394 ?_
  refine r_callM X bc1 bs1 hI1 (c_X11_type X.tr SM _ (zD (kB κ)) ((xs (i + (1 : Int32)).toNatClampNeg)) ((xs (i + (2 : Int32)).toNatClampNeg))) me_X11_type ml_L_133 iv_X11_type rfl dL_law_395 (rest := []) rfl rfl ⟨Nat.le_of_ble_eq_true rfl, Nat.le_of_ble_eq_true rfl⟩ ⟨by show 0 + _ ≤ _; omega, by show 0 + _ ≤ _; omega⟩ (Nat.le_of_ble_eq_true rfl) (fun v2 SM1 X2 hI2 => ?_)
  refine j_istore X [(6, .int v2), (5, .int v), (0, .ref b0), (1, .ref (kB κ + 0)), (2, .ref (kB κ + 358)), (3, .ref (kB κ + 387)), (4, .int i)] dL_law_398 (by decide) rfl ?_
  refine j_aload_n X 4 rfl dL_law_400 rfl ?_
  refine r_callN X bc1 bs1 hI2 (c_X11_thrown X.tr SM1 _ (zD (kB κ))) me_X11_thrown ml_L_122 iv_X11_thrown rfl dL_law_401 (rest := []) rfl rfl ⟨Nat.le_of_ble_eq_true rfl, Nat.le_of_ble_eq_true rfl⟩ ⟨by show 0 + _ ≤ _; omega, by show 0 + _ ≤ _; omega⟩ (Nat.le_of_ble_eq_true rfl) (fun v3 u3 => ?_)
  refine j_iload X 1 rfl dL_law_404 ?_
  refine j_icmp_eq X 411 dL_law_406 (by decide) ?_ j_none
  refine j_iload X 1 rfl dL_law_411 ?_
  refine j_if_ne X 428 dL_law_413 (by decide) ?_ ?_
  · refine j_aload_n X 5 rfl dL_law_416 rfl ?_
    refine j_iconst X (0 : Int32) dL_law_417 (by rfl) ?_
    refine r_out X hI2 dL_law_418 ?_
    refine j_iload X 0 rfl dL_law_419 ?_
    refine j_i2l X dL_law_421 ?_
    refine j_lcmp X dL_law_422 ?_
    refine jh_if_eq X 428 dL_law_423 (by decide) (fun hc9 => ?_) (fun hc9 => j_eq (if_neg (fun e9 => hc9 (lg_cmp0.mpr e9))) j_none)
    refine j_eq (if_pos (lg_cmp0.mp hc9)) ?_
    refine j_goto X 2305 dL_law_428 (by decide) ?_
    refine j_lv [2, 3, 4, 5, 6] rfl ?_
    exact hrec _ _ _ _ _ hI2
  · refine j_goto X 2305 dL_law_428 (by decide) ?_
    refine j_lv [2, 3, 4, 5, 6] rfl ?_
    exact hrec _ _ _ _ _ hI2
def lawC_3 (N : Nat) (xs : Nat → Int32) (i : Int32) (S : jS) (L : jLg) (w : Nat → Int64) (SM : jS) (rec : jS → jLg → (Nat → Int64) → jS → Option Int32) : Option Int32 := chk (inb (i + (1 : Int32)) N) (chk (inb (i + (2 : Int32)) N) (jbin0 (f_L_erase S L w (xs (i + (1 : Int32)).toNatClampNeg) (xs (i + (2 : Int32)).toNatClampNeg)) (fun v S1 => chk (inb (i + (1 : Int32)) N) (chk (inb (i + (2 : Int32)) N) (jbin0 (f_X11_erase SM (xs (i + (1 : Int32)).toNatClampNeg) (xs (i + (2 : Int32)).toNatClampNeg)) (fun v2 SM1 => jbin0 (f_X11_thrown SM1) (fun v3 _ => if v3 = v then (if v = 0 then (if S1.2.2 0 = v2.toInt64 then rec S1.1 S1.2.1 S1.2.2 SM1 else none) else rec S1.1 S1.2.1 S1.2.2 SM1) else none)))))))
set_option maxHeartbeats 4000000 in
set_option maxRecDepth 100000 in
theorem c_case_3 {κ : jCx} {Qf : Int32 → State → Prop} {b0 N : Nat} {xs : Nat → Int32} {S SM : jS} {L : jLg} {w : Nat → Int64} {Xm : jMem} {i : Int32} {rec : jS → jLg → (Nat → Int64) → jS → Option Int32} (X : jX κ RL code 7 (some .boolean)) (bc1 bs1 : Nat) (hI : GI (kS κ) (kD κ) (kB κ) (kT κ) b0 N xs SM L w Xm) (hrec : ∀ (S : jS) (L : jLg) (w : Nat → Int64) (SM : jS) (Xm : jMem), GI (kS κ) (kD κ) (kB κ) (kT κ) b0 N xs SM L w Xm → J κ 7 room_1 Qf (rec S L w SM) (memG 0 358 (kD κ) (kB κ) S Xm) (zD (kB κ)) bc1 bs1 [(0, .ref b0), (1, .ref (kB κ + 0)), (2, .ref (kB κ + 358)), (3, .ref (kB κ + 387)), (4, .int i)] 2305 []) : J κ 7 room_1 Qf (lawC_3 N xs i S L w SM rec) (memG 0 358 (kD κ) (kB κ) S Xm) (zD (kB κ)) (bc1 + 16) (bs1 + 3000) [(0, .ref b0), (1, .ref (kB κ + 0)), (2, .ref (kB κ + 358)), (3, .ref (kB κ + 387)), (4, .int i)] 431 [] := by
  unfold lawC_3
  refine j_aload_n X 1 rfl dL_law_431 rfl ?_
  refine j_aload_n X 0 rfl dL_law_432 rfl ?_
  refine j_iload X 4 rfl dL_law_433 ?_
  refine j_iconst X (1 : Int32) dL_law_435 (by rfl) ?_
  refine j_iadd X dL_law_436 ?_
  refine r_scr X hI dL_law_437 ?_
  refine j_aload_n X 0 rfl dL_law_438 rfl ?_
  refine j_iload X 4 rfl dL_law_439 ?_
  refine j_iconst X (2 : Int32) dL_law_441 (by rfl) ?_
  refine j_iadd X dL_law_442 ?_
  refine r_scr X hI dL_law_443 ?_
  refine j_aload_n X 3 rfl dL_law_444 rfl ?_
  refine r_callL X bc1 bs1 hI (c_L_erase X.tr S Xm L w hI.2.1 hI.2.2.1 ((xs (i + (1 : Int32)).toNatClampNeg)) ((xs (i + (2 : Int32)).toNatClampNeg))) mh_L_erase ml_L_134 st_L_erase dL_law_445 (rest := []) rfl rfl ⟨Nat.le_of_ble_eq_true rfl, Nat.le_of_ble_eq_true rfl⟩ ⟨by show 2 + _ ≤ _; omega, by show 12 + _ ≤ _; omega⟩ (Nat.le_of_ble_eq_true rfl) (fun v S1 X1 hI1 => ?_)
  refine j_istore X [(5, .int v), (0, .ref b0), (1, .ref (kB κ + 0)), (2, .ref (kB κ + 358)), (3, .ref (kB κ + 387)), (4, .int i)] dL_law_448 (by decide) rfl ?_
  refine j_aload_n X 3 rfl dL_law_450 rfl ?_
  refine j_aload_n X 1 rfl dL_law_451 rfl ?_
  refine j_iload X 5 rfl dL_law_452 ?_
  refine j_iconst X (1 : Int32) dL_law_454 (by rfl) ?_
  refine j_iadd X dL_law_455 ?_
  refine r_scr X hI1 dL_law_456 ?_
  refine j_aload_n X 1 rfl dL_law_457 rfl ?_
  refine j_iload X 5 rfl dL_law_458 ?_
  refine j_iconst X (2 : Int32) dL_law_460 (by rfl) ?_
  refine j_iadd X dL_law_461 ?_
  refine r_scr X hI1 dL_law_462 ?_
  refine r_callM X bc1 bs1 hI1 (c_X11_erase X.tr SM _ (zD (kB κ)) ((xs (i + (1 : Int32)).toNatClampNeg)) ((xs (i + (2 : Int32)).toNatClampNeg))) me_X11_erase ml_L_136 iv_X11_erase rfl dL_law_463 (rest := []) rfl rfl ⟨Nat.le_of_ble_eq_true rfl, Nat.le_of_ble_eq_true rfl⟩ ⟨by show 0 + _ ≤ _; omega, by show 0 + _ ≤ _; omega⟩ (Nat.le_of_ble_eq_true rfl) (fun v2 SM1 X2 hI2 => ?_)
  refine j_istore X [(6, .int v2), (5, .int v), (0, .ref b0), (1, .ref (kB κ + 0)), (2, .ref (kB κ + 358)), (3, .ref (kB κ + 387)), (4, .int i)] dL_law_466 (by decide) rfl ?_
  refine j_aload_n X 4 rfl dL_law_468 rfl ?_
  refine r_callN X bc1 bs1 hI2 (c_X11_thrown X.tr SM1 _ (zD (kB κ))) me_X11_thrown ml_L_122 iv_X11_thrown rfl dL_law_469 (rest := []) rfl rfl ⟨Nat.le_of_ble_eq_true rfl, Nat.le_of_ble_eq_true rfl⟩ ⟨by show 0 + _ ≤ _; omega, by show 0 + _ ≤ _; omega⟩ (Nat.le_of_ble_eq_true rfl) (fun v3 u3 => ?_)
  refine j_iload X 1 rfl dL_law_472 ?_
  refine j_icmp_eq X 479 dL_law_474 (by decide) ?_ j_none
  refine j_iload X 1 rfl dL_law_479 ?_
  refine j_if_ne X 496 dL_law_481 (by decide) ?_ ?_
  · refine j_aload_n X 5 rfl dL_law_484 rfl ?_
    refine j_iconst X (0 : Int32) dL_law_485 (by rfl) ?_
    refine r_out X hI2 dL_law_486 ?_
    refine j_iload X 0 rfl dL_law_487 ?_
    refine j_i2l X dL_law_489 ?_
    refine j_lcmp X dL_law_490 ?_
    refine jh_if_eq X 496 dL_law_491 (by decide) (fun hc9 => ?_) (fun hc9 => j_eq (if_neg (fun e9 => hc9 (lg_cmp0.mpr e9))) j_none)
    refine j_eq (if_pos (lg_cmp0.mp hc9)) ?_
    refine j_goto X 2305 dL_law_496 (by decide) ?_
    refine j_lv [2, 3, 4, 5, 6] rfl ?_
    exact hrec _ _ _ _ _ hI2
  · refine j_goto X 2305 dL_law_496 (by decide) ?_
    refine j_lv [2, 3, 4, 5, 6] rfl ?_
    exact hrec _ _ _ _ _ hI2
def lawC_4 (N : Nat) (xs : Nat → Int32) (i : Int32) (S : jS) (L : jLg) (w : Nat → Int64) (SM : jS) (rec : jS → jLg → (Nat → Int64) → jS → Option Int32) : Option Int32 := chk (inb (i + (1 : Int32)) N) (chk (inb (i + (2 : Int32)) N) (jbin0 (f_L_sign S L w (xs (i + (1 : Int32)).toNatClampNeg) (xs (i + (2 : Int32)).toNatClampNeg)) (fun v S1 => chk (inb (i + (1 : Int32)) N) (chk (inb (i + (2 : Int32)) N) (jbin0 (f_X11_sign SM (xs (i + (1 : Int32)).toNatClampNeg) (xs (i + (2 : Int32)).toNatClampNeg)) (fun v2 SM1 => jbin0 (f_X11_thrown SM1) (fun v3 _ => if v3 = v then (if v = 0 then (if S1.2.2 0 = v2.toInt64 then rec S1.1 S1.2.1 S1.2.2 SM1 else none) else rec S1.1 S1.2.1 S1.2.2 SM1) else none)))))))
set_option maxHeartbeats 4000000 in
set_option maxRecDepth 100000 in
theorem c_case_4 {κ : jCx} {Qf : Int32 → State → Prop} {b0 N : Nat} {xs : Nat → Int32} {S SM : jS} {L : jLg} {w : Nat → Int64} {Xm : jMem} {i : Int32} {rec : jS → jLg → (Nat → Int64) → jS → Option Int32} (X : jX κ RL code 7 (some .boolean)) (bc1 bs1 : Nat) (hI : GI (kS κ) (kD κ) (kB κ) (kT κ) b0 N xs SM L w Xm) (hrec : ∀ (S : jS) (L : jLg) (w : Nat → Int64) (SM : jS) (Xm : jMem), GI (kS κ) (kD κ) (kB κ) (kT κ) b0 N xs SM L w Xm → J κ 7 room_1 Qf (rec S L w SM) (memG 0 358 (kD κ) (kB κ) S Xm) (zD (kB κ)) bc1 bs1 [(0, .ref b0), (1, .ref (kB κ + 0)), (2, .ref (kB κ + 358)), (3, .ref (kB κ + 387)), (4, .int i)] 2305 []) : J κ 7 room_1 Qf (lawC_4 N xs i S L w SM rec) (memG 0 358 (kD κ) (kB κ) S Xm) (zD (kB κ)) (bc1 + 16) (bs1 + 3000) [(0, .ref b0), (1, .ref (kB κ + 0)), (2, .ref (kB κ + 358)), (3, .ref (kB κ + 387)), (4, .int i)] 499 [] := by
  unfold lawC_4
  refine j_aload_n X 1 rfl dL_law_499 rfl ?_
  refine j_aload_n X 0 rfl dL_law_500 rfl ?_
  refine j_iload X 4 rfl dL_law_501 ?_
  refine j_iconst X (1 : Int32) dL_law_503 (by rfl) ?_
  refine j_iadd X dL_law_504 ?_
  refine r_scr X hI dL_law_505 ?_
  refine j_aload_n X 0 rfl dL_law_506 rfl ?_
  refine j_iload X 4 rfl dL_law_507 ?_
  refine j_iconst X (2 : Int32) dL_law_509 (by rfl) ?_
  refine j_iadd X dL_law_510 ?_
  refine r_scr X hI dL_law_511 ?_
  refine j_aload_n X 3 rfl dL_law_512 rfl ?_
  refine r_callL X bc1 bs1 hI (c_L_sign X.tr S Xm L w hI.2.1 hI.2.2.1 ((xs (i + (1 : Int32)).toNatClampNeg)) ((xs (i + (2 : Int32)).toNatClampNeg))) mh_L_sign ml_L_137 st_L_sign dL_law_513 (rest := []) rfl rfl ⟨Nat.le_of_ble_eq_true rfl, Nat.le_of_ble_eq_true rfl⟩ ⟨by show 2 + _ ≤ _; omega, by show 12 + _ ≤ _; omega⟩ (Nat.le_of_ble_eq_true rfl) (fun v S1 X1 hI1 => ?_)
  refine j_istore X [(5, .int v), (0, .ref b0), (1, .ref (kB κ + 0)), (2, .ref (kB κ + 358)), (3, .ref (kB κ + 387)), (4, .int i)] dL_law_516 (by decide) rfl ?_
  refine j_aload_n X 3 rfl dL_law_518 rfl ?_
  refine j_aload_n X 1 rfl dL_law_519 rfl ?_
  refine j_iload X 5 rfl dL_law_520 ?_
  refine j_iconst X (1 : Int32) dL_law_522 (by rfl) ?_
  refine j_iadd X dL_law_523 ?_
  refine r_scr X hI1 dL_law_524 ?_
  refine j_aload_n X 1 rfl dL_law_525 rfl ?_
  refine j_iload X 5 rfl dL_law_526 ?_
  refine j_iconst X (2 : Int32) dL_law_528 (by rfl) ?_
  refine j_iadd X dL_law_529 ?_
  refine r_scr X hI1 dL_law_530 ?_
  refine r_callM X bc1 bs1 hI1 (c_X11_sign X.tr SM _ (zD (kB κ)) ((xs (i + (1 : Int32)).toNatClampNeg)) ((xs (i + (2 : Int32)).toNatClampNeg))) me_X11_sign ml_L_139 iv_X11_sign rfl dL_law_531 (rest := []) rfl rfl ⟨Nat.le_of_ble_eq_true rfl, Nat.le_of_ble_eq_true rfl⟩ ⟨by show 0 + _ ≤ _; omega, by show 0 + _ ≤ _; omega⟩ (Nat.le_of_ble_eq_true rfl) (fun v2 SM1 X2 hI2 => ?_)
  refine j_istore X [(6, .int v2), (5, .int v), (0, .ref b0), (1, .ref (kB κ + 0)), (2, .ref (kB κ + 358)), (3, .ref (kB κ + 387)), (4, .int i)] dL_law_534 (by decide) rfl ?_
  refine j_aload_n X 4 rfl dL_law_536 rfl ?_
  refine r_callN X bc1 bs1 hI2 (c_X11_thrown X.tr SM1 _ (zD (kB κ))) me_X11_thrown ml_L_122 iv_X11_thrown rfl dL_law_537 (rest := []) rfl rfl ⟨Nat.le_of_ble_eq_true rfl, Nat.le_of_ble_eq_true rfl⟩ ⟨by show 0 + _ ≤ _; omega, by show 0 + _ ≤ _; omega⟩ (Nat.le_of_ble_eq_true rfl) (fun v3 u3 => ?_)
  refine j_iload X 1 rfl dL_law_540 ?_
  refine j_icmp_eq X 547 dL_law_542 (by decide) ?_ j_none
  refine j_iload X 1 rfl dL_law_547 ?_
  refine j_if_ne X 564 dL_law_549 (by decide) ?_ ?_
  · refine j_aload_n X 5 rfl dL_law_552 rfl ?_
    refine j_iconst X (0 : Int32) dL_law_553 (by rfl) ?_
    refine r_out X hI2 dL_law_554 ?_
    refine j_iload X 0 rfl dL_law_555 ?_
    refine j_i2l X dL_law_557 ?_
    refine j_lcmp X dL_law_558 ?_
    refine jh_if_eq X 564 dL_law_559 (by decide) (fun hc9 => ?_) (fun hc9 => j_eq (if_neg (fun e9 => hc9 (lg_cmp0.mpr e9))) j_none)
    refine j_eq (if_pos (lg_cmp0.mp hc9)) ?_
    refine j_goto X 2305 dL_law_564 (by decide) ?_
    refine j_lv [2, 3, 4, 5, 6] rfl ?_
    exact hrec _ _ _ _ _ hI2
  · refine j_goto X 2305 dL_law_564 (by decide) ?_
    refine j_lv [2, 3, 4, 5, 6] rfl ?_
    exact hrec _ _ _ _ _ hI2
def lawC_5 (N : Nat) (xs : Nat → Int32) (i : Int32) (S : jS) (L : jLg) (w : Nat → Int64) (SM : jS) (rec : jS → jLg → (Nat → Int64) → jS → Option Int32) : Option Int32 := chk (inb (i + (1 : Int32)) N) (jbin0 (f_L_fault S L w (xs (i + (1 : Int32)).toNatClampNeg)) (fun v S1 => chk (inb (i + (1 : Int32)) N) (jbin0 (f_X11_fault SM (xs (i + (1 : Int32)).toNatClampNeg)) (fun v2 SM1 => jbin0 (f_X11_thrown SM1) (fun v3 _ => if v3 = v then (if v = 0 then (if S1.2.2 0 = v2.toInt64 then rec S1.1 S1.2.1 S1.2.2 SM1 else none) else rec S1.1 S1.2.1 S1.2.2 SM1) else none)))))
set_option maxHeartbeats 4000000 in
set_option maxRecDepth 100000 in
theorem c_case_5 {κ : jCx} {Qf : Int32 → State → Prop} {b0 N : Nat} {xs : Nat → Int32} {S SM : jS} {L : jLg} {w : Nat → Int64} {Xm : jMem} {i : Int32} {rec : jS → jLg → (Nat → Int64) → jS → Option Int32} (X : jX κ RL code 7 (some .boolean)) (bc1 bs1 : Nat) (hI : GI (kS κ) (kD κ) (kB κ) (kT κ) b0 N xs SM L w Xm) (hrec : ∀ (S : jS) (L : jLg) (w : Nat → Int64) (SM : jS) (Xm : jMem), GI (kS κ) (kD κ) (kB κ) (kT κ) b0 N xs SM L w Xm → J κ 7 room_1 Qf (rec S L w SM) (memG 0 358 (kD κ) (kB κ) S Xm) (zD (kB κ)) bc1 bs1 [(0, .ref b0), (1, .ref (kB κ + 0)), (2, .ref (kB κ + 358)), (3, .ref (kB κ + 387)), (4, .int i)] 2305 []) : J κ 7 room_1 Qf (lawC_5 N xs i S L w SM rec) (memG 0 358 (kD κ) (kB κ) S Xm) (zD (kB κ)) (bc1 + 16) (bs1 + 3000) [(0, .ref b0), (1, .ref (kB κ + 0)), (2, .ref (kB κ + 358)), (3, .ref (kB κ + 387)), (4, .int i)] 567 [] := by
  unfold lawC_5
  refine j_aload_n X 1 rfl dL_law_567 rfl ?_
  refine j_aload_n X 0 rfl dL_law_568 rfl ?_
  refine j_iload X 4 rfl dL_law_569 ?_
  refine j_iconst X (1 : Int32) dL_law_571 (by rfl) ?_
  refine j_iadd X dL_law_572 ?_
  refine r_scr X hI dL_law_573 ?_
  refine j_aload_n X 3 rfl dL_law_574 rfl ?_
  refine r_callL X bc1 bs1 hI (c_L_fault X.tr S Xm L w hI.2.1 hI.2.2.1 ((xs (i + (1 : Int32)).toNatClampNeg))) mh_L_fault ml_L_140 st_L_fault dL_law_575 (rest := []) rfl rfl ⟨Nat.le_of_ble_eq_true rfl, Nat.le_of_ble_eq_true rfl⟩ ⟨by show 1 + _ ≤ _; omega, by show 6 + _ ≤ _; omega⟩ (Nat.le_of_ble_eq_true rfl) (fun v S1 X1 hI1 => ?_)
  refine j_istore X [(5, .int v), (0, .ref b0), (1, .ref (kB κ + 0)), (2, .ref (kB κ + 358)), (3, .ref (kB κ + 387)), (4, .int i)] dL_law_578 (by decide) rfl ?_
  refine j_aload_n X 3 rfl dL_law_580 rfl ?_
  refine j_aload_n X 1 rfl dL_law_581 rfl ?_
  refine j_iload X 5 rfl dL_law_582 ?_
  refine j_iconst X (1 : Int32) dL_law_584 (by rfl) ?_
  refine j_iadd X dL_law_585 ?_
  refine r_scr X hI1 dL_law_586 ?_
  refine r_callM X bc1 bs1 hI1 (c_X11_fault X.tr SM _ (zD (kB κ)) ((xs (i + (1 : Int32)).toNatClampNeg))) me_X11_fault ml_L_143 iv_X11_fault rfl dL_law_587 (rest := []) rfl rfl ⟨Nat.le_of_ble_eq_true rfl, Nat.le_of_ble_eq_true rfl⟩ ⟨by show 0 + _ ≤ _; omega, by show 0 + _ ≤ _; omega⟩ (Nat.le_of_ble_eq_true rfl) (fun v2 SM1 X2 hI2 => ?_)
  refine j_istore X [(6, .int v2), (5, .int v), (0, .ref b0), (1, .ref (kB κ + 0)), (2, .ref (kB κ + 358)), (3, .ref (kB κ + 387)), (4, .int i)] dL_law_590 (by decide) rfl ?_
  refine j_aload_n X 4 rfl dL_law_592 rfl ?_
  refine r_callN X bc1 bs1 hI2 (c_X11_thrown X.tr SM1 _ (zD (kB κ))) me_X11_thrown ml_L_122 iv_X11_thrown rfl dL_law_593 (rest := []) rfl rfl ⟨Nat.le_of_ble_eq_true rfl, Nat.le_of_ble_eq_true rfl⟩ ⟨by show 0 + _ ≤ _; omega, by show 0 + _ ≤ _; omega⟩ (Nat.le_of_ble_eq_true rfl) (fun v3 u3 => ?_)
  refine j_iload X 1 rfl dL_law_596 ?_
  refine j_icmp_eq X 603 dL_law_598 (by decide) ?_ j_none
  refine j_iload X 1 rfl dL_law_603 ?_
  refine j_if_ne X 620 dL_law_605 (by decide) ?_ ?_
  · refine j_aload_n X 5 rfl dL_law_608 rfl ?_
    refine j_iconst X (0 : Int32) dL_law_609 (by rfl) ?_
    refine r_out X hI2 dL_law_610 ?_
    refine j_iload X 0 rfl dL_law_611 ?_
    refine j_i2l X dL_law_613 ?_
    refine j_lcmp X dL_law_614 ?_
    refine jh_if_eq X 620 dL_law_615 (by decide) (fun hc9 => ?_) (fun hc9 => j_eq (if_neg (fun e9 => hc9 (lg_cmp0.mpr e9))) j_none)
    refine j_eq (if_pos (lg_cmp0.mp hc9)) ?_
    refine j_goto X 2305 dL_law_620 (by decide) ?_
    refine j_lv [2, 3, 4, 5, 6] rfl ?_
    exact hrec _ _ _ _ _ hI2
  · refine j_goto X 2305 dL_law_620 (by decide) ?_
    refine j_lv [2, 3, 4, 5, 6] rfl ?_
    exact hrec _ _ _ _ _ hI2
def lawC_6 (N : Nat) (xs : Nat → Int32) (i : Int32) (S : jS) (L : jLg) (w : Nat → Int64) (SM : jS) (rec : jS → jLg → (Nat → Int64) → jS → Option Int32) : Option Int32 := chk (inb (i + (1 : Int32)) N) (jbin0 (f_L_set S L w (xs (i + (1 : Int32)).toNatClampNeg)) (fun v S1 => chk (inb (i + (1 : Int32)) N) (jbin0 (f_X11_set SM (xs (i + (1 : Int32)).toNatClampNeg)) (fun v2 SM1 => jbin0 (f_X11_thrown SM1) (fun v3 _ => if v3 = v then (if v = 0 then (if S1.2.2 0 = v2.toInt64 then rec S1.1 S1.2.1 S1.2.2 SM1 else none) else rec S1.1 S1.2.1 S1.2.2 SM1) else none)))))
set_option maxHeartbeats 4000000 in
set_option maxRecDepth 100000 in
theorem c_case_6 {κ : jCx} {Qf : Int32 → State → Prop} {b0 N : Nat} {xs : Nat → Int32} {S SM : jS} {L : jLg} {w : Nat → Int64} {Xm : jMem} {i : Int32} {rec : jS → jLg → (Nat → Int64) → jS → Option Int32} (X : jX κ RL code 7 (some .boolean)) (bc1 bs1 : Nat) (hI : GI (kS κ) (kD κ) (kB κ) (kT κ) b0 N xs SM L w Xm) (hrec : ∀ (S : jS) (L : jLg) (w : Nat → Int64) (SM : jS) (Xm : jMem), GI (kS κ) (kD κ) (kB κ) (kT κ) b0 N xs SM L w Xm → J κ 7 room_1 Qf (rec S L w SM) (memG 0 358 (kD κ) (kB κ) S Xm) (zD (kB κ)) bc1 bs1 [(0, .ref b0), (1, .ref (kB κ + 0)), (2, .ref (kB κ + 358)), (3, .ref (kB κ + 387)), (4, .int i)] 2305 []) : J κ 7 room_1 Qf (lawC_6 N xs i S L w SM rec) (memG 0 358 (kD κ) (kB κ) S Xm) (zD (kB κ)) (bc1 + 16) (bs1 + 3000) [(0, .ref b0), (1, .ref (kB κ + 0)), (2, .ref (kB κ + 358)), (3, .ref (kB κ + 387)), (4, .int i)] 623 [] := by
  unfold lawC_6
  refine j_aload_n X 1 rfl dL_law_623 rfl ?_
  refine j_aload_n X 0 rfl dL_law_624 rfl ?_
  refine j_iload X 4 rfl dL_law_625 ?_
  refine j_iconst X (1 : Int32) dL_law_627 (by rfl) ?_
  refine j_iadd X dL_law_628 ?_
  refine r_scr X hI dL_law_629 ?_
  refine j_aload_n X 3 rfl dL_law_630 rfl ?_
  refine r_callL X bc1 bs1 hI (c_L_set X.tr S Xm L w hI.2.1 hI.2.2.1 ((xs (i + (1 : Int32)).toNatClampNeg))) mh_L_set ml_L_144 st_L_set dL_law_631 (rest := []) rfl rfl ⟨Nat.le_of_ble_eq_true rfl, Nat.le_of_ble_eq_true rfl⟩ ⟨by show 2 + _ ≤ _; omega, by show 12 + _ ≤ _; omega⟩ (Nat.le_of_ble_eq_true rfl) (fun v S1 X1 hI1 => ?_)
  refine j_istore X [(5, .int v), (0, .ref b0), (1, .ref (kB κ + 0)), (2, .ref (kB κ + 358)), (3, .ref (kB κ + 387)), (4, .int i)] dL_law_634 (by decide) rfl ?_
  refine j_aload_n X 3 rfl dL_law_636 rfl ?_
  refine j_aload_n X 1 rfl dL_law_637 rfl ?_
  refine j_iload X 5 rfl dL_law_638 ?_
  refine j_iconst X (1 : Int32) dL_law_640 (by rfl) ?_
  refine j_iadd X dL_law_641 ?_
  refine r_scr X hI1 dL_law_642 ?_
  refine r_callM X bc1 bs1 hI1 (c_X11_set X.tr SM _ (zD (kB κ)) ((xs (i + (1 : Int32)).toNatClampNeg))) me_X11_set ml_L_146 iv_X11_set rfl dL_law_643 (rest := []) rfl rfl ⟨Nat.le_of_ble_eq_true rfl, Nat.le_of_ble_eq_true rfl⟩ ⟨by show 0 + _ ≤ _; omega, by show 0 + _ ≤ _; omega⟩ (Nat.le_of_ble_eq_true rfl) (fun v2 SM1 X2 hI2 => ?_)
  refine j_istore X [(6, .int v2), (5, .int v), (0, .ref b0), (1, .ref (kB κ + 0)), (2, .ref (kB κ + 358)), (3, .ref (kB κ + 387)), (4, .int i)] dL_law_646 (by decide) rfl ?_
  refine j_aload_n X 4 rfl dL_law_648 rfl ?_
  refine r_callN X bc1 bs1 hI2 (c_X11_thrown X.tr SM1 _ (zD (kB κ))) me_X11_thrown ml_L_122 iv_X11_thrown rfl dL_law_649 (rest := []) rfl rfl ⟨Nat.le_of_ble_eq_true rfl, Nat.le_of_ble_eq_true rfl⟩ ⟨by show 0 + _ ≤ _; omega, by show 0 + _ ≤ _; omega⟩ (Nat.le_of_ble_eq_true rfl) (fun v3 u3 => ?_)
  refine j_iload X 1 rfl dL_law_652 ?_
  refine j_icmp_eq X 659 dL_law_654 (by decide) ?_ j_none
  refine j_iload X 1 rfl dL_law_659 ?_
  refine j_if_ne X 676 dL_law_661 (by decide) ?_ ?_
  · refine j_aload_n X 5 rfl dL_law_664 rfl ?_
    refine j_iconst X (0 : Int32) dL_law_665 (by rfl) ?_
    refine r_out X hI2 dL_law_666 ?_
    refine j_iload X 0 rfl dL_law_667 ?_
    refine j_i2l X dL_law_669 ?_
    refine j_lcmp X dL_law_670 ?_
    refine jh_if_eq X 676 dL_law_671 (by decide) (fun hc9 => ?_) (fun hc9 => j_eq (if_neg (fun e9 => hc9 (lg_cmp0.mpr e9))) j_none)
    refine j_eq (if_pos (lg_cmp0.mp hc9)) ?_
    refine j_goto X 2305 dL_law_676 (by decide) ?_
    refine j_lv [2, 3, 4, 5, 6] rfl ?_
    exact hrec _ _ _ _ _ hI2
  · refine j_goto X 2305 dL_law_676 (by decide) ?_
    refine j_lv [2, 3, 4, 5, 6] rfl ?_
    exact hrec _ _ _ _ _ hI2
def lawC_7 (N : Nat) (xs : Nat → Int32) (i : Int32) (S : jS) (L : jLg) (w : Nat → Int64) (SM : jS) (rec : jS → jLg → (Nat → Int64) → jS → Option Int32) : Option Int32 := chk (inb (i + (1 : Int32)) N) (jbin0 (f_L_wouldMove S L w (xs (i + (1 : Int32)).toNatClampNeg)) (fun v S1 => chk (inb (i + (1 : Int32)) N) (jbin0 (f_X11_wouldMove SM (xs (i + (1 : Int32)).toNatClampNeg)) (fun v2 SM1 => jbin0 (f_X11_thrown SM1) (fun v3 _ => if v3 = v then (if v = 0 then (if S1.2.2 0 = v2.toInt64 then rec S1.1 S1.2.1 S1.2.2 SM1 else none) else rec S1.1 S1.2.1 S1.2.2 SM1) else none)))))
set_option maxHeartbeats 4000000 in
set_option maxRecDepth 100000 in
theorem c_case_7 {κ : jCx} {Qf : Int32 → State → Prop} {b0 N : Nat} {xs : Nat → Int32} {S SM : jS} {L : jLg} {w : Nat → Int64} {Xm : jMem} {i : Int32} {rec : jS → jLg → (Nat → Int64) → jS → Option Int32} (X : jX κ RL code 7 (some .boolean)) (bc1 bs1 : Nat) (hI : GI (kS κ) (kD κ) (kB κ) (kT κ) b0 N xs SM L w Xm) (hrec : ∀ (S : jS) (L : jLg) (w : Nat → Int64) (SM : jS) (Xm : jMem), GI (kS κ) (kD κ) (kB κ) (kT κ) b0 N xs SM L w Xm → J κ 7 room_1 Qf (rec S L w SM) (memG 0 358 (kD κ) (kB κ) S Xm) (zD (kB κ)) bc1 bs1 [(0, .ref b0), (1, .ref (kB κ + 0)), (2, .ref (kB κ + 358)), (3, .ref (kB κ + 387)), (4, .int i)] 2305 []) : J κ 7 room_1 Qf (lawC_7 N xs i S L w SM rec) (memG 0 358 (kD κ) (kB κ) S Xm) (zD (kB κ)) (bc1 + 16) (bs1 + 3000) [(0, .ref b0), (1, .ref (kB κ + 0)), (2, .ref (kB κ + 358)), (3, .ref (kB κ + 387)), (4, .int i)] 679 [] := by
  unfold lawC_7
  refine j_aload_n X 1 rfl dL_law_679 rfl ?_
  refine j_aload_n X 0 rfl dL_law_680 rfl ?_
  refine j_iload X 4 rfl dL_law_681 ?_
  refine j_iconst X (1 : Int32) dL_law_683 (by rfl) ?_
  refine j_iadd X dL_law_684 ?_
  refine r_scr X hI dL_law_685 ?_
  refine j_aload_n X 3 rfl dL_law_686 rfl ?_
  refine r_callL X bc1 bs1 hI (c_L_wouldMove X.tr S Xm L w hI.2.1 hI.2.2.1 ((xs (i + (1 : Int32)).toNatClampNeg))) mh_L_wouldMove ml_L_147 st_L_wouldMove dL_law_687 (rest := []) rfl rfl ⟨Nat.le_of_ble_eq_true rfl, Nat.le_of_ble_eq_true rfl⟩ ⟨by show 2 + _ ≤ _; omega, by show 12 + _ ≤ _; omega⟩ (Nat.le_of_ble_eq_true rfl) (fun v S1 X1 hI1 => ?_)
  refine j_istore X [(5, .int v), (0, .ref b0), (1, .ref (kB κ + 0)), (2, .ref (kB κ + 358)), (3, .ref (kB κ + 387)), (4, .int i)] dL_law_690 (by decide) rfl ?_
  refine j_aload_n X 3 rfl dL_law_692 rfl ?_
  refine j_aload_n X 1 rfl dL_law_693 rfl ?_
  refine j_iload X 5 rfl dL_law_694 ?_
  refine j_iconst X (1 : Int32) dL_law_696 (by rfl) ?_
  refine j_iadd X dL_law_697 ?_
  refine r_scr X hI1 dL_law_698 ?_
  refine r_callM X bc1 bs1 hI1 (c_X11_wouldMove X.tr SM _ (zD (kB κ)) ((xs (i + (1 : Int32)).toNatClampNeg))) me_X11_wouldMove ml_L_149 iv_X11_wouldMove rfl dL_law_699 (rest := []) rfl rfl ⟨Nat.le_of_ble_eq_true rfl, Nat.le_of_ble_eq_true rfl⟩ ⟨by show 0 + _ ≤ _; omega, by show 0 + _ ≤ _; omega⟩ (Nat.le_of_ble_eq_true rfl) (fun v2 SM1 X2 hI2 => ?_)
  refine j_istore X [(6, .int v2), (5, .int v), (0, .ref b0), (1, .ref (kB κ + 0)), (2, .ref (kB κ + 358)), (3, .ref (kB κ + 387)), (4, .int i)] dL_law_702 (by decide) rfl ?_
  refine j_aload_n X 4 rfl dL_law_704 rfl ?_
  refine r_callN X bc1 bs1 hI2 (c_X11_thrown X.tr SM1 _ (zD (kB κ))) me_X11_thrown ml_L_122 iv_X11_thrown rfl dL_law_705 (rest := []) rfl rfl ⟨Nat.le_of_ble_eq_true rfl, Nat.le_of_ble_eq_true rfl⟩ ⟨by show 0 + _ ≤ _; omega, by show 0 + _ ≤ _; omega⟩ (Nat.le_of_ble_eq_true rfl) (fun v3 u3 => ?_)
  refine j_iload X 1 rfl dL_law_708 ?_
  refine j_icmp_eq X 715 dL_law_710 (by decide) ?_ j_none
  refine j_iload X 1 rfl dL_law_715 ?_
  refine j_if_ne X 732 dL_law_717 (by decide) ?_ ?_
  · refine j_aload_n X 5 rfl dL_law_720 rfl ?_
    refine j_iconst X (0 : Int32) dL_law_721 (by rfl) ?_
    refine r_out X hI2 dL_law_722 ?_
    refine j_iload X 0 rfl dL_law_723 ?_
    refine j_i2l X dL_law_725 ?_
    refine j_lcmp X dL_law_726 ?_
    refine jh_if_eq X 732 dL_law_727 (by decide) (fun hc9 => ?_) (fun hc9 => j_eq (if_neg (fun e9 => hc9 (lg_cmp0.mpr e9))) j_none)
    refine j_eq (if_pos (lg_cmp0.mp hc9)) ?_
    refine j_goto X 2305 dL_law_732 (by decide) ?_
    refine j_lv [2, 3, 4, 5, 6] rfl ?_
    exact hrec _ _ _ _ _ hI2
  · refine j_goto X 2305 dL_law_732 (by decide) ?_
    refine j_lv [2, 3, 4, 5, 6] rfl ?_
    exact hrec _ _ _ _ _ hI2
def lawC_8 (N : Nat) (xs : Nat → Int32) (i : Int32) (S : jS) (L : jLg) (w : Nat → Int64) (SM : jS) (rec : jS → jLg → (Nat → Int64) → jS → Option Int32) : Option Int32 := chk (inb (i + (1 : Int32)) N) (chk (inb (i + (2 : Int32)) N) (jbin0 (f_L_isIn S L w (xs (i + (1 : Int32)).toNatClampNeg) (xs (i + (2 : Int32)).toNatClampNeg)) (fun v S1 => chk (inb (i + (1 : Int32)) N) (chk (inb (i + (2 : Int32)) N) (jbin0 (f_X11_isIn SM (xs (i + (1 : Int32)).toNatClampNeg) (xs (i + (2 : Int32)).toNatClampNeg)) (fun v2 SM1 => jbin0 (f_X11_thrown SM1) (fun v3 _ => if v3 = v then (if v = 0 then (if S1.2.2 0 = zl v2 then rec S1.1 S1.2.1 S1.2.2 SM1 else none) else rec S1.1 S1.2.1 S1.2.2 SM1) else none)))))))
set_option maxHeartbeats 4000000 in
set_option maxRecDepth 100000 in
theorem c_case_8 {κ : jCx} {Qf : Int32 → State → Prop} {b0 N : Nat} {xs : Nat → Int32} {S SM : jS} {L : jLg} {w : Nat → Int64} {Xm : jMem} {i : Int32} {rec : jS → jLg → (Nat → Int64) → jS → Option Int32} (X : jX κ RL code 7 (some .boolean)) (bc1 bs1 : Nat) (hI : GI (kS κ) (kD κ) (kB κ) (kT κ) b0 N xs SM L w Xm) (hrec : ∀ (S : jS) (L : jLg) (w : Nat → Int64) (SM : jS) (Xm : jMem), GI (kS κ) (kD κ) (kB κ) (kT κ) b0 N xs SM L w Xm → J κ 7 room_1 Qf (rec S L w SM) (memG 0 358 (kD κ) (kB κ) S Xm) (zD (kB κ)) bc1 bs1 [(0, .ref b0), (1, .ref (kB κ + 0)), (2, .ref (kB κ + 358)), (3, .ref (kB κ + 387)), (4, .int i)] 2305 []) : J κ 7 room_1 Qf (lawC_8 N xs i S L w SM rec) (memG 0 358 (kD κ) (kB κ) S Xm) (zD (kB κ)) (bc1 + 16) (bs1 + 3000) [(0, .ref b0), (1, .ref (kB κ + 0)), (2, .ref (kB κ + 358)), (3, .ref (kB κ + 387)), (4, .int i)] 735 [] := by
  unfold lawC_8
  refine j_aload_n X 1 rfl dL_law_735 rfl ?_
  refine j_aload_n X 0 rfl dL_law_736 rfl ?_
  refine j_iload X 4 rfl dL_law_737 ?_
  refine j_iconst X (1 : Int32) dL_law_739 (by rfl) ?_
  refine j_iadd X dL_law_740 ?_
  refine r_scr X hI dL_law_741 ?_
  refine j_aload_n X 0 rfl dL_law_742 rfl ?_
  refine j_iload X 4 rfl dL_law_743 ?_
  refine j_iconst X (2 : Int32) dL_law_745 (by rfl) ?_
  refine j_iadd X dL_law_746 ?_
  refine r_scr X hI dL_law_747 ?_
  refine j_aload_n X 3 rfl dL_law_748 rfl ?_
  refine r_callL X bc1 bs1 hI (c_L_isIn X.tr S Xm L w hI.2.1 hI.2.2.1 ((xs (i + (1 : Int32)).toNatClampNeg)) ((xs (i + (2 : Int32)).toNatClampNeg))) mh_L_isIn ml_L_150 st_L_isIn dL_law_749 (rest := []) rfl rfl ⟨Nat.le_of_ble_eq_true rfl, Nat.le_of_ble_eq_true rfl⟩ ⟨by show 2 + _ ≤ _; omega, by show 12 + _ ≤ _; omega⟩ (Nat.le_of_ble_eq_true rfl) (fun v S1 X1 hI1 => ?_)
  refine j_istore X [(5, .int v), (0, .ref b0), (1, .ref (kB κ + 0)), (2, .ref (kB κ + 358)), (3, .ref (kB κ + 387)), (4, .int i)] dL_law_752 (by decide) rfl ?_
  refine j_aload_n X 3 rfl dL_law_754 rfl ?_
  refine j_aload_n X 1 rfl dL_law_755 rfl ?_
  refine j_iload X 5 rfl dL_law_756 ?_
  refine j_iconst X (1 : Int32) dL_law_758 (by rfl) ?_
  refine j_iadd X dL_law_759 ?_
  refine r_scr X hI1 dL_law_760 ?_
  refine j_aload_n X 1 rfl dL_law_761 rfl ?_
  refine j_iload X 5 rfl dL_law_762 ?_
  refine j_iconst X (2 : Int32) dL_law_764 (by rfl) ?_
  refine j_iadd X dL_law_765 ?_
  refine r_scr X hI1 dL_law_766 ?_
  refine r_callM X bc1 bs1 hI1 (c_X11_isIn X.tr SM _ (zD (kB κ)) ((xs (i + (1 : Int32)).toNatClampNeg)) ((xs (i + (2 : Int32)).toNatClampNeg))) me_X11_isIn ml_L_152 iv_X11_isIn rfl dL_law_767 (rest := []) rfl rfl ⟨Nat.le_of_ble_eq_true rfl, Nat.le_of_ble_eq_true rfl⟩ ⟨by show 0 + _ ≤ _; omega, by show 0 + _ ≤ _; omega⟩ (Nat.le_of_ble_eq_true rfl) (fun v2 SM1 X2 hI2 => ?_)
  refine j_istore X [(6, .int v2), (5, .int v), (0, .ref b0), (1, .ref (kB κ + 0)), (2, .ref (kB κ + 358)), (3, .ref (kB κ + 387)), (4, .int i)] dL_law_770 (by decide) rfl ?_
  refine j_aload_n X 4 rfl dL_law_772 rfl ?_
  refine r_callN X bc1 bs1 hI2 (c_X11_thrown X.tr SM1 _ (zD (kB κ))) me_X11_thrown ml_L_122 iv_X11_thrown rfl dL_law_773 (rest := []) rfl rfl ⟨Nat.le_of_ble_eq_true rfl, Nat.le_of_ble_eq_true rfl⟩ ⟨by show 0 + _ ≤ _; omega, by show 0 + _ ≤ _; omega⟩ (Nat.le_of_ble_eq_true rfl) (fun v3 u3 => ?_)
  refine j_iload X 1 rfl dL_law_776 ?_
  refine j_icmp_eq X 783 dL_law_778 (by decide) ?_ j_none
  refine j_iload X 1 rfl dL_law_783 ?_
  refine j_if_ne X 807 dL_law_785 (by decide) ?_ ?_
  · refine j_aload_n X 5 rfl dL_law_788 rfl ?_
    refine j_iconst X (0 : Int32) dL_law_789 (by rfl) ?_
    refine r_out X hI2 dL_law_790 ?_
    refine j_iload X 0 rfl dL_law_791 ?_
    refine jh_if_eq X 800 dL_law_793 (by decide) (fun hz8 => ?_) (fun hz8 => ?_)
    · rw [show zl v2 = 0 from if_pos hz8]
      refine j_lconst X (0 : Int64) dL_law_800 (by rfl) ?_
      refine j_lcmp X dL_law_801 ?_
      refine jh_if_eq X 807 dL_law_802 (by decide) (fun hc9 => ?_) (fun hc9 => j_eq (if_neg (fun e9 => hc9 (lg_cmp0.mpr e9))) j_none)
      refine j_eq (if_pos (lg_cmp0.mp hc9)) ?_
      refine j_goto X 2305 dL_law_807 (by decide) ?_
      refine j_lv [2, 3, 4, 5, 6] rfl ?_
      exact hrec _ _ _ _ _ hI2
    · rw [show zl v2 = 1 from if_neg hz8]
      refine j_lconst X (1 : Int64) dL_law_796 (by rfl) ?_
      refine j_goto X 801 dL_law_797 (by decide) ?_
      refine j_lcmp X dL_law_801 ?_
      refine jh_if_eq X 807 dL_law_802 (by decide) (fun hc9 => ?_) (fun hc9 => j_eq (if_neg (fun e9 => hc9 (lg_cmp0.mpr e9))) j_none)
      refine j_eq (if_pos (lg_cmp0.mp hc9)) ?_
      refine j_goto X 2305 dL_law_807 (by decide) ?_
      refine j_lv [2, 3, 4, 5, 6] rfl ?_
      exact hrec _ _ _ _ _ hI2
  · refine j_goto X 2305 dL_law_807 (by decide) ?_
    refine j_lv [2, 3, 4, 5, 6] rfl ?_
    exact hrec _ _ _ _ _ hI2
def lawC_9 (N : Nat) (xs : Nat → Int32) (i : Int32) (S : jS) (L : jLg) (w : Nat → Int64) (SM : jS) (rec : jS → jLg → (Nat → Int64) → jS → Option Int32) : Option Int32 := chk (inb (i + (1 : Int32)) N) (chk (inb (i + (2 : Int32)) N) (chk (inb (i + (3 : Int32)) N) (chk (inb (i + (4 : Int32)) N) (jbin0 (f_L_addRule S L w (xs (i + (1 : Int32)).toNatClampNeg) (xs (i + (2 : Int32)).toNatClampNeg) (xs (i + (3 : Int32)).toNatClampNeg) (xs (i + (4 : Int32)).toNatClampNeg)) (fun v S1 => chk (inb (i + (1 : Int32)) N) (chk (inb (i + (2 : Int32)) N) (chk (inb (i + (3 : Int32)) N) (chk (inb (i + (4 : Int32)) N) (jbin0 (f_X11_addRule SM (xs (i + (1 : Int32)).toNatClampNeg) (xs (i + (2 : Int32)).toNatClampNeg) (xs (i + (3 : Int32)).toNatClampNeg) (xs (i + (4 : Int32)).toNatClampNeg)) (fun v2 SM1 => jbin0 (f_X11_thrown SM1) (fun v3 _ => if v3 = v then (if v = 0 then (if S1.2.2 0 = v2.toInt64 then rec S1.1 S1.2.1 S1.2.2 SM1 else none) else rec S1.1 S1.2.1 S1.2.2 SM1) else none)))))))))))
set_option maxHeartbeats 4000000 in
set_option maxRecDepth 100000 in
theorem c_case_9 {κ : jCx} {Qf : Int32 → State → Prop} {b0 N : Nat} {xs : Nat → Int32} {S SM : jS} {L : jLg} {w : Nat → Int64} {Xm : jMem} {i : Int32} {rec : jS → jLg → (Nat → Int64) → jS → Option Int32} (X : jX κ RL code 7 (some .boolean)) (bc1 bs1 : Nat) (hI : GI (kS κ) (kD κ) (kB κ) (kT κ) b0 N xs SM L w Xm) (hrec : ∀ (S : jS) (L : jLg) (w : Nat → Int64) (SM : jS) (Xm : jMem), GI (kS κ) (kD κ) (kB κ) (kT κ) b0 N xs SM L w Xm → J κ 7 room_1 Qf (rec S L w SM) (memG 0 358 (kD κ) (kB κ) S Xm) (zD (kB κ)) bc1 bs1 [(0, .ref b0), (1, .ref (kB κ + 0)), (2, .ref (kB κ + 358)), (3, .ref (kB κ + 387)), (4, .int i)] 2305 []) : J κ 7 room_1 Qf (lawC_9 N xs i S L w SM rec) (memG 0 358 (kD κ) (kB κ) S Xm) (zD (kB κ)) (bc1 + 16) (bs1 + 3000) [(0, .ref b0), (1, .ref (kB κ + 0)), (2, .ref (kB κ + 358)), (3, .ref (kB κ + 387)), (4, .int i)] 810 [] := by
  unfold lawC_9
  refine j_aload_n X 1 rfl dL_law_810 rfl ?_
  refine j_aload_n X 0 rfl dL_law_811 rfl ?_
  refine j_iload X 4 rfl dL_law_812 ?_
  refine j_iconst X (1 : Int32) dL_law_814 (by rfl) ?_
  refine j_iadd X dL_law_815 ?_
  refine r_scr X hI dL_law_816 ?_
  refine j_aload_n X 0 rfl dL_law_817 rfl ?_
  refine j_iload X 4 rfl dL_law_818 ?_
  refine j_iconst X (2 : Int32) dL_law_820 (by rfl) ?_
  refine j_iadd X dL_law_821 ?_
  refine r_scr X hI dL_law_822 ?_
  refine j_aload_n X 0 rfl dL_law_823 rfl ?_
  refine j_iload X 4 rfl dL_law_824 ?_
  refine j_iconst X (3 : Int32) dL_law_826 (by rfl) ?_
  refine j_iadd X dL_law_827 ?_
  refine r_scr X hI dL_law_828 ?_
  refine j_aload_n X 0 rfl dL_law_829 rfl ?_
  refine j_iload X 4 rfl dL_law_830 ?_
  refine j_iconst X (4 : Int32) dL_law_832 (by rfl) ?_
  refine j_iadd X dL_law_833 ?_
  refine r_scr X hI dL_law_834 ?_
  refine j_aload_n X 3 rfl dL_law_835 rfl ?_
  refine r_callL X bc1 bs1 hI (c_L_addRule X.tr S Xm L w hI.2.1 hI.2.2.1 ((xs (i + (1 : Int32)).toNatClampNeg)) ((xs (i + (2 : Int32)).toNatClampNeg)) ((xs (i + (3 : Int32)).toNatClampNeg)) ((xs (i + (4 : Int32)).toNatClampNeg))) mh_L_addRule ml_L_153 st_L_addRule dL_law_836 (rest := []) rfl rfl ⟨Nat.le_of_ble_eq_true rfl, Nat.le_of_ble_eq_true rfl⟩ ⟨by show 4 + _ ≤ _; omega, by show 24 + _ ≤ _; omega⟩ (Nat.le_of_ble_eq_true rfl) (fun v S1 X1 hI1 => ?_)
  refine j_istore X [(5, .int v), (0, .ref b0), (1, .ref (kB κ + 0)), (2, .ref (kB κ + 358)), (3, .ref (kB κ + 387)), (4, .int i)] dL_law_839 (by decide) rfl ?_
  refine j_aload_n X 3 rfl dL_law_841 rfl ?_
  refine j_aload_n X 1 rfl dL_law_842 rfl ?_
  refine j_iload X 5 rfl dL_law_843 ?_
  refine j_iconst X (1 : Int32) dL_law_845 (by rfl) ?_
  refine j_iadd X dL_law_846 ?_
  refine r_scr X hI1 dL_law_847 ?_
  refine j_aload_n X 1 rfl dL_law_848 rfl ?_
  refine j_iload X 5 rfl dL_law_849 ?_
  refine j_iconst X (2 : Int32) dL_law_851 (by rfl) ?_
  refine j_iadd X dL_law_852 ?_
  refine r_scr X hI1 dL_law_853 ?_
  refine j_aload_n X 1 rfl dL_law_854 rfl ?_
  refine j_iload X 5 rfl dL_law_855 ?_
  refine j_iconst X (3 : Int32) dL_law_857 (by rfl) ?_
  refine j_iadd X dL_law_858 ?_
  refine r_scr X hI1 dL_law_859 ?_
  refine j_aload_n X 1 rfl dL_law_860 rfl ?_
  refine j_iload X 5 rfl dL_law_861 ?_
  refine j_iconst X (4 : Int32) dL_law_863 (by rfl) ?_
  refine j_iadd X dL_law_864 ?_
  refine r_scr X hI1 dL_law_865 ?_
  refine r_callM X bc1 bs1 hI1 (c_X11_addRule X.tr SM _ (zD (kB κ)) ((xs (i + (1 : Int32)).toNatClampNeg)) ((xs (i + (2 : Int32)).toNatClampNeg)) ((xs (i + (3 : Int32)).toNatClampNeg)) ((xs (i + (4 : Int32)).toNatClampNeg))) me_X11_addRule ml_L_156 iv_X11_addRule rfl dL_law_866 (rest := []) rfl rfl ⟨Nat.le_of_ble_eq_true rfl, Nat.le_of_ble_eq_true rfl⟩ ⟨by show 0 + _ ≤ _; omega, by show 0 + _ ≤ _; omega⟩ (Nat.le_of_ble_eq_true rfl) (fun v2 SM1 X2 hI2 => ?_)
  refine j_istore X [(6, .int v2), (5, .int v), (0, .ref b0), (1, .ref (kB κ + 0)), (2, .ref (kB κ + 358)), (3, .ref (kB κ + 387)), (4, .int i)] dL_law_869 (by decide) rfl ?_
  refine j_aload_n X 4 rfl dL_law_871 rfl ?_
  refine r_callN X bc1 bs1 hI2 (c_X11_thrown X.tr SM1 _ (zD (kB κ))) me_X11_thrown ml_L_122 iv_X11_thrown rfl dL_law_872 (rest := []) rfl rfl ⟨Nat.le_of_ble_eq_true rfl, Nat.le_of_ble_eq_true rfl⟩ ⟨by show 0 + _ ≤ _; omega, by show 0 + _ ≤ _; omega⟩ (Nat.le_of_ble_eq_true rfl) (fun v3 u3 => ?_)
  refine j_iload X 1 rfl dL_law_875 ?_
  refine j_icmp_eq X 882 dL_law_877 (by decide) ?_ j_none
  refine j_iload X 1 rfl dL_law_882 ?_
  refine j_if_ne X 899 dL_law_884 (by decide) ?_ ?_
  · refine j_aload_n X 5 rfl dL_law_887 rfl ?_
    refine j_iconst X (0 : Int32) dL_law_888 (by rfl) ?_
    refine r_out X hI2 dL_law_889 ?_
    refine j_iload X 0 rfl dL_law_890 ?_
    refine j_i2l X dL_law_892 ?_
    refine j_lcmp X dL_law_893 ?_
    refine jh_if_eq X 899 dL_law_894 (by decide) (fun hc9 => ?_) (fun hc9 => j_eq (if_neg (fun e9 => hc9 (lg_cmp0.mpr e9))) j_none)
    refine j_eq (if_pos (lg_cmp0.mp hc9)) ?_
    refine j_goto X 2305 dL_law_899 (by decide) ?_
    refine j_lv [2, 3, 4, 5, 6] rfl ?_
    exact hrec _ _ _ _ _ hI2
  · refine j_goto X 2305 dL_law_899 (by decide) ?_
    refine j_lv [2, 3, 4, 5, 6] rfl ?_
    exact hrec _ _ _ _ _ hI2
def lawC_10 (N : Nat) (xs : Nat → Int32) (i : Int32) (S : jS) (L : jLg) (w : Nat → Int64) (SM : jS) (rec : jS → jLg → (Nat → Int64) → jS → Option Int32) : Option Int32 := chk (inb (i + (1 : Int32)) N) (chk (inb (i + (2 : Int32)) N) (jbin0 (f_L_removeRule S L w (xs (i + (1 : Int32)).toNatClampNeg) (xs (i + (2 : Int32)).toNatClampNeg)) (fun v S1 => chk (inb (i + (1 : Int32)) N) (chk (inb (i + (2 : Int32)) N) (jbin0 (f_X11_removeRule SM (xs (i + (1 : Int32)).toNatClampNeg) (xs (i + (2 : Int32)).toNatClampNeg)) (fun v2 SM1 => jbin0 (f_X11_thrown SM1) (fun v3 _ => if v3 = v then (if v = 0 then (if S1.2.2 0 = v2.toInt64 then rec S1.1 S1.2.1 S1.2.2 SM1 else none) else rec S1.1 S1.2.1 S1.2.2 SM1) else none)))))))
set_option maxHeartbeats 4000000 in
set_option maxRecDepth 100000 in
theorem c_case_10 {κ : jCx} {Qf : Int32 → State → Prop} {b0 N : Nat} {xs : Nat → Int32} {S SM : jS} {L : jLg} {w : Nat → Int64} {Xm : jMem} {i : Int32} {rec : jS → jLg → (Nat → Int64) → jS → Option Int32} (X : jX κ RL code 7 (some .boolean)) (bc1 bs1 : Nat) (hI : GI (kS κ) (kD κ) (kB κ) (kT κ) b0 N xs SM L w Xm) (hrec : ∀ (S : jS) (L : jLg) (w : Nat → Int64) (SM : jS) (Xm : jMem), GI (kS κ) (kD κ) (kB κ) (kT κ) b0 N xs SM L w Xm → J κ 7 room_1 Qf (rec S L w SM) (memG 0 358 (kD κ) (kB κ) S Xm) (zD (kB κ)) bc1 bs1 [(0, .ref b0), (1, .ref (kB κ + 0)), (2, .ref (kB κ + 358)), (3, .ref (kB κ + 387)), (4, .int i)] 2305 []) : J κ 7 room_1 Qf (lawC_10 N xs i S L w SM rec) (memG 0 358 (kD κ) (kB κ) S Xm) (zD (kB κ)) (bc1 + 16) (bs1 + 3000) [(0, .ref b0), (1, .ref (kB κ + 0)), (2, .ref (kB κ + 358)), (3, .ref (kB κ + 387)), (4, .int i)] 902 [] := by
  unfold lawC_10
  refine j_aload_n X 1 rfl dL_law_902 rfl ?_
  refine j_aload_n X 0 rfl dL_law_903 rfl ?_
  refine j_iload X 4 rfl dL_law_904 ?_
  refine j_iconst X (1 : Int32) dL_law_906 (by rfl) ?_
  refine j_iadd X dL_law_907 ?_
  refine r_scr X hI dL_law_908 ?_
  refine j_aload_n X 0 rfl dL_law_909 rfl ?_
  refine j_iload X 4 rfl dL_law_910 ?_
  refine j_iconst X (2 : Int32) dL_law_912 (by rfl) ?_
  refine j_iadd X dL_law_913 ?_
  refine r_scr X hI dL_law_914 ?_
  refine j_aload_n X 3 rfl dL_law_915 rfl ?_
  refine r_callL X bc1 bs1 hI (c_L_removeRule X.tr S Xm L w hI.2.1 hI.2.2.1 ((xs (i + (1 : Int32)).toNatClampNeg)) ((xs (i + (2 : Int32)).toNatClampNeg))) mh_L_removeRule ml_L_157 st_L_removeRule dL_law_916 (rest := []) rfl rfl ⟨Nat.le_of_ble_eq_true rfl, Nat.le_of_ble_eq_true rfl⟩ ⟨by show 2 + _ ≤ _; omega, by show 12 + _ ≤ _; omega⟩ (Nat.le_of_ble_eq_true rfl) (fun v S1 X1 hI1 => ?_)
  refine j_istore X [(5, .int v), (0, .ref b0), (1, .ref (kB κ + 0)), (2, .ref (kB κ + 358)), (3, .ref (kB κ + 387)), (4, .int i)] dL_law_919 (by decide) rfl ?_
  refine j_aload_n X 3 rfl dL_law_921 rfl ?_
  refine j_aload_n X 1 rfl dL_law_922 rfl ?_
  refine j_iload X 5 rfl dL_law_923 ?_
  refine j_iconst X (1 : Int32) dL_law_925 (by rfl) ?_
  refine j_iadd X dL_law_926 ?_
  refine r_scr X hI1 dL_law_927 ?_
  refine j_aload_n X 1 rfl dL_law_928 rfl ?_
  refine j_iload X 5 rfl dL_law_929 ?_
  refine j_iconst X (2 : Int32) dL_law_931 (by rfl) ?_
  refine j_iadd X dL_law_932 ?_
  refine r_scr X hI1 dL_law_933 ?_
  refine r_callM X bc1 bs1 hI1 (c_X11_removeRule X.tr SM _ (zD (kB κ)) ((xs (i + (1 : Int32)).toNatClampNeg)) ((xs (i + (2 : Int32)).toNatClampNeg))) me_X11_removeRule ml_L_159 iv_X11_removeRule rfl dL_law_934 (rest := []) rfl rfl ⟨Nat.le_of_ble_eq_true rfl, Nat.le_of_ble_eq_true rfl⟩ ⟨by show 0 + _ ≤ _; omega, by show 0 + _ ≤ _; omega⟩ (Nat.le_of_ble_eq_true rfl) (fun v2 SM1 X2 hI2 => ?_)
  refine j_istore X [(6, .int v2), (5, .int v), (0, .ref b0), (1, .ref (kB κ + 0)), (2, .ref (kB κ + 358)), (3, .ref (kB κ + 387)), (4, .int i)] dL_law_937 (by decide) rfl ?_
  refine j_aload_n X 4 rfl dL_law_939 rfl ?_
  refine r_callN X bc1 bs1 hI2 (c_X11_thrown X.tr SM1 _ (zD (kB κ))) me_X11_thrown ml_L_122 iv_X11_thrown rfl dL_law_940 (rest := []) rfl rfl ⟨Nat.le_of_ble_eq_true rfl, Nat.le_of_ble_eq_true rfl⟩ ⟨by show 0 + _ ≤ _; omega, by show 0 + _ ≤ _; omega⟩ (Nat.le_of_ble_eq_true rfl) (fun v3 u3 => ?_)
  refine j_iload X 1 rfl dL_law_943 ?_
  refine j_icmp_eq X 950 dL_law_945 (by decide) ?_ j_none
  refine j_iload X 1 rfl dL_law_950 ?_
  refine j_if_ne X 967 dL_law_952 (by decide) ?_ ?_
  · refine j_aload_n X 5 rfl dL_law_955 rfl ?_
    refine j_iconst X (0 : Int32) dL_law_956 (by rfl) ?_
    refine r_out X hI2 dL_law_957 ?_
    refine j_iload X 0 rfl dL_law_958 ?_
    refine j_i2l X dL_law_960 ?_
    refine j_lcmp X dL_law_961 ?_
    refine jh_if_eq X 967 dL_law_962 (by decide) (fun hc9 => ?_) (fun hc9 => j_eq (if_neg (fun e9 => hc9 (lg_cmp0.mpr e9))) j_none)
    refine j_eq (if_pos (lg_cmp0.mp hc9)) ?_
    refine j_goto X 2305 dL_law_967 (by decide) ?_
    refine j_lv [2, 3, 4, 5, 6] rfl ?_
    exact hrec _ _ _ _ _ hI2
  · refine j_goto X 2305 dL_law_967 (by decide) ?_
    refine j_lv [2, 3, 4, 5, 6] rfl ?_
    exact hrec _ _ _ _ _ hI2
def lawC_11 (N : Nat) (xs : Nat → Int32) (i : Int32) (S : jS) (L : jLg) (w : Nat → Int64) (SM : jS) (rec : jS → jLg → (Nat → Int64) → jS → Option Int32) : Option Int32 := chk (inb (i + (1 : Int32)) N) (jbin0 (f_L_rules S L w (xs (i + (1 : Int32)).toNatClampNeg)) (fun v S1 => chk (inb (i + (1 : Int32)) N) (jbin0 (f_X11_rules SM (xs (i + (1 : Int32)).toNatClampNeg)) (fun v2 SM1 => jbin0 (f_X11_thrown SM1) (fun v3 _ => if v3 = v then (if v = 0 then (if S1.2.2 0 = v2.toInt64 then rec S1.1 S1.2.1 S1.2.2 SM1 else none) else rec S1.1 S1.2.1 S1.2.2 SM1) else none)))))
set_option maxHeartbeats 4000000 in
set_option maxRecDepth 100000 in
theorem c_case_11 {κ : jCx} {Qf : Int32 → State → Prop} {b0 N : Nat} {xs : Nat → Int32} {S SM : jS} {L : jLg} {w : Nat → Int64} {Xm : jMem} {i : Int32} {rec : jS → jLg → (Nat → Int64) → jS → Option Int32} (X : jX κ RL code 7 (some .boolean)) (bc1 bs1 : Nat) (hI : GI (kS κ) (kD κ) (kB κ) (kT κ) b0 N xs SM L w Xm) (hrec : ∀ (S : jS) (L : jLg) (w : Nat → Int64) (SM : jS) (Xm : jMem), GI (kS κ) (kD κ) (kB κ) (kT κ) b0 N xs SM L w Xm → J κ 7 room_1 Qf (rec S L w SM) (memG 0 358 (kD κ) (kB κ) S Xm) (zD (kB κ)) bc1 bs1 [(0, .ref b0), (1, .ref (kB κ + 0)), (2, .ref (kB κ + 358)), (3, .ref (kB κ + 387)), (4, .int i)] 2305 []) : J κ 7 room_1 Qf (lawC_11 N xs i S L w SM rec) (memG 0 358 (kD κ) (kB κ) S Xm) (zD (kB κ)) (bc1 + 16) (bs1 + 3000) [(0, .ref b0), (1, .ref (kB κ + 0)), (2, .ref (kB κ + 358)), (3, .ref (kB κ + 387)), (4, .int i)] 970 [] := by
  unfold lawC_11
  refine j_aload_n X 1 rfl dL_law_970 rfl ?_
  refine j_aload_n X 0 rfl dL_law_971 rfl ?_
  refine j_iload X 4 rfl dL_law_972 ?_
  refine j_iconst X (1 : Int32) dL_law_974 (by rfl) ?_
  refine j_iadd X dL_law_975 ?_
  refine r_scr X hI dL_law_976 ?_
  refine j_aload_n X 3 rfl dL_law_977 rfl ?_
  refine r_callL X bc1 bs1 hI (c_L_rules X.tr S Xm L w hI.2.1 hI.2.2.1 ((xs (i + (1 : Int32)).toNatClampNeg))) mh_L_rules ml_L_160 st_L_rules dL_law_978 (rest := []) rfl rfl ⟨Nat.le_of_ble_eq_true rfl, Nat.le_of_ble_eq_true rfl⟩ ⟨by show 1 + _ ≤ _; omega, by show 6 + _ ≤ _; omega⟩ (Nat.le_of_ble_eq_true rfl) (fun v S1 X1 hI1 => ?_)
  refine j_istore X [(5, .int v), (0, .ref b0), (1, .ref (kB κ + 0)), (2, .ref (kB κ + 358)), (3, .ref (kB κ + 387)), (4, .int i)] dL_law_981 (by decide) rfl ?_
  refine j_aload_n X 3 rfl dL_law_983 rfl ?_
  refine j_aload_n X 1 rfl dL_law_984 rfl ?_
  refine j_iload X 5 rfl dL_law_985 ?_
  refine j_iconst X (1 : Int32) dL_law_987 (by rfl) ?_
  refine j_iadd X dL_law_988 ?_
  refine r_scr X hI1 dL_law_989 ?_
  refine r_callM X bc1 bs1 hI1 (c_X11_rules X.tr SM _ (zD (kB κ)) ((xs (i + (1 : Int32)).toNatClampNeg))) me_X11_rules ml_L_162 iv_X11_rules rfl dL_law_990 (rest := []) rfl rfl ⟨Nat.le_of_ble_eq_true rfl, Nat.le_of_ble_eq_true rfl⟩ ⟨by show 0 + _ ≤ _; omega, by show 0 + _ ≤ _; omega⟩ (Nat.le_of_ble_eq_true rfl) (fun v2 SM1 X2 hI2 => ?_)
  refine j_istore X [(6, .int v2), (5, .int v), (0, .ref b0), (1, .ref (kB κ + 0)), (2, .ref (kB κ + 358)), (3, .ref (kB κ + 387)), (4, .int i)] dL_law_993 (by decide) rfl ?_
  refine j_aload_n X 4 rfl dL_law_995 rfl ?_
  refine r_callN X bc1 bs1 hI2 (c_X11_thrown X.tr SM1 _ (zD (kB κ))) me_X11_thrown ml_L_122 iv_X11_thrown rfl dL_law_996 (rest := []) rfl rfl ⟨Nat.le_of_ble_eq_true rfl, Nat.le_of_ble_eq_true rfl⟩ ⟨by show 0 + _ ≤ _; omega, by show 0 + _ ≤ _; omega⟩ (Nat.le_of_ble_eq_true rfl) (fun v3 u3 => ?_)
  refine j_iload X 1 rfl dL_law_999 ?_
  refine j_icmp_eq X 1006 dL_law_1001 (by decide) ?_ j_none
  refine j_iload X 1 rfl dL_law_1006 ?_
  refine j_if_ne X 1023 dL_law_1008 (by decide) ?_ ?_
  · refine j_aload_n X 5 rfl dL_law_1011 rfl ?_
    refine j_iconst X (0 : Int32) dL_law_1012 (by rfl) ?_
    refine r_out X hI2 dL_law_1013 ?_
    refine j_iload X 0 rfl dL_law_1014 ?_
    refine j_i2l X dL_law_1016 ?_
    refine j_lcmp X dL_law_1017 ?_
    refine jh_if_eq X 1023 dL_law_1018 (by decide) (fun hc9 => ?_) (fun hc9 => j_eq (if_neg (fun e9 => hc9 (lg_cmp0.mpr e9))) j_none)
    refine j_eq (if_pos (lg_cmp0.mp hc9)) ?_
    refine j_goto X 2305 dL_law_1023 (by decide) ?_
    refine j_lv [2, 3, 4, 5, 6] rfl ?_
    exact hrec _ _ _ _ _ hI2
  · refine j_goto X 2305 dL_law_1023 (by decide) ?_
    refine j_lv [2, 3, 4, 5, 6] rfl ?_
    exact hrec _ _ _ _ _ hI2
def lawC_12 (N : Nat) (xs : Nat → Int32) (i : Int32) (S : jS) (L : jLg) (w : Nat → Int64) (SM : jS) (rec : jS → jLg → (Nat → Int64) → jS → Option Int32) : Option Int32 := chk (inb (i + (1 : Int32)) N) (chk (inb (i + (2 : Int32)) N) (chk (inb (i + (3 : Int32)) N) (jbin0 (f_L_setNeed S L w (xs (i + (1 : Int32)).toNatClampNeg) (xs (i + (2 : Int32)).toNatClampNeg) (bz (xs (i + (3 : Int32)).toNatClampNeg))) (fun v S1 => chk (inb (i + (1 : Int32)) N) (chk (inb (i + (2 : Int32)) N) (chk (inb (i + (3 : Int32)) N) (jbin0 (f_X11_setNeed SM (xs (i + (1 : Int32)).toNatClampNeg) (xs (i + (2 : Int32)).toNatClampNeg) (bz (xs (i + (3 : Int32)).toNatClampNeg))) (fun v2 SM1 => jbin0 (f_X11_thrown SM1) (fun v3 _ => if v3 = v then (if v = 0 then (if S1.2.2 0 = zl v2 then rec S1.1 S1.2.1 S1.2.2 SM1 else none) else rec S1.1 S1.2.1 S1.2.2 SM1) else none)))))))))
set_option maxHeartbeats 4000000 in
set_option maxRecDepth 100000 in
theorem c_case_12 {κ : jCx} {Qf : Int32 → State → Prop} {b0 N : Nat} {xs : Nat → Int32} {S SM : jS} {L : jLg} {w : Nat → Int64} {Xm : jMem} {i : Int32} {rec : jS → jLg → (Nat → Int64) → jS → Option Int32} (X : jX κ RL code 7 (some .boolean)) (bc1 bs1 : Nat) (hI : GI (kS κ) (kD κ) (kB κ) (kT κ) b0 N xs SM L w Xm) (hrec : ∀ (S : jS) (L : jLg) (w : Nat → Int64) (SM : jS) (Xm : jMem), GI (kS κ) (kD κ) (kB κ) (kT κ) b0 N xs SM L w Xm → J κ 7 room_1 Qf (rec S L w SM) (memG 0 358 (kD κ) (kB κ) S Xm) (zD (kB κ)) bc1 bs1 [(0, .ref b0), (1, .ref (kB κ + 0)), (2, .ref (kB κ + 358)), (3, .ref (kB κ + 387)), (4, .int i)] 2305 []) : J κ 7 room_1 Qf (lawC_12 N xs i S L w SM rec) (memG 0 358 (kD κ) (kB κ) S Xm) (zD (kB κ)) (bc1 + 16) (bs1 + 3000) [(0, .ref b0), (1, .ref (kB κ + 0)), (2, .ref (kB κ + 358)), (3, .ref (kB κ + 387)), (4, .int i)] 1026 [] := by
  unfold lawC_12
  refine j_aload_n X 1 rfl dL_law_1026 rfl ?_
  refine j_aload_n X 0 rfl dL_law_1027 rfl ?_
  refine j_iload X 4 rfl dL_law_1028 ?_
  refine j_iconst X (1 : Int32) dL_law_1030 (by rfl) ?_
  refine j_iadd X dL_law_1031 ?_
  refine r_scr X hI dL_law_1032 ?_
  refine j_aload_n X 0 rfl dL_law_1033 rfl ?_
  refine j_iload X 4 rfl dL_law_1034 ?_
  refine j_iconst X (2 : Int32) dL_law_1036 (by rfl) ?_
  refine j_iadd X dL_law_1037 ?_
  refine r_scr X hI dL_law_1038 ?_
  refine j_aload_n X 0 rfl dL_law_1039 rfl ?_
  refine j_iload X 4 rfl dL_law_1040 ?_
  refine j_iconst X (3 : Int32) dL_law_1042 (by rfl) ?_
  refine j_iadd X dL_law_1043 ?_
  refine r_scr X hI dL_law_1044 ?_
  refine jh_if_eq X 1052 dL_law_1045 (by decide) (fun hz9 => ?_) (fun hz9 => ?_)
  · rw [show bz ((xs (i + (3 : Int32)).toNatClampNeg)) = 0 from if_pos hz9]
    refine j_iconst X (0 : Int32) dL_law_1052 (by rfl) ?_
    refine j_aload_n X 3 rfl dL_law_1053 rfl ?_
    refine r_callL X bc1 bs1 hI (c_L_setNeed X.tr S Xm L w hI.2.1 hI.2.2.1 ((xs (i + (1 : Int32)).toNatClampNeg)) ((xs (i + (2 : Int32)).toNatClampNeg)) (0 : Int32)) mh_L_setNeed ml_L_163 st_L_setNeed dL_law_1054 (rest := []) rfl rfl ⟨Nat.le_of_ble_eq_true rfl, Nat.le_of_ble_eq_true rfl⟩ ⟨by show 3 + _ ≤ _; omega, by show 18 + _ ≤ _; omega⟩ (Nat.le_of_ble_eq_true rfl) (fun v S1 X1 hI1 => ?_)
    refine j_istore X [(5, .int v), (0, .ref b0), (1, .ref (kB κ + 0)), (2, .ref (kB κ + 358)), (3, .ref (kB κ + 387)), (4, .int i)] dL_law_1057 (by decide) rfl ?_
    refine j_aload_n X 3 rfl dL_law_1059 rfl ?_
    refine j_aload_n X 1 rfl dL_law_1060 rfl ?_
    refine j_iload X 5 rfl dL_law_1061 ?_
    refine j_iconst X (1 : Int32) dL_law_1063 (by rfl) ?_
    refine j_iadd X dL_law_1064 ?_
    refine r_scr X hI1 dL_law_1065 ?_
    refine j_aload_n X 1 rfl dL_law_1066 rfl ?_
    refine j_iload X 5 rfl dL_law_1067 ?_
    refine j_iconst X (2 : Int32) dL_law_1069 (by rfl) ?_
    refine j_iadd X dL_law_1070 ?_
    refine r_scr X hI1 dL_law_1071 ?_
    refine j_aload_n X 1 rfl dL_law_1072 rfl ?_
    refine j_iload X 5 rfl dL_law_1073 ?_
    refine j_iconst X (3 : Int32) dL_law_1075 (by rfl) ?_
    refine j_iadd X dL_law_1076 ?_
    refine r_scr X hI1 dL_law_1077 ?_
    refine jh_if_eq X 1085 dL_law_1078 (by decide) (fun _ => ?_) (fun h9 => absurd hz9 h9)
    refine j_iconst X (0 : Int32) dL_law_1085 (by rfl) ?_
    refine r_callM X bc1 bs1 hI1 (c_X11_setNeed X.tr SM _ (zD (kB κ)) ((xs (i + (1 : Int32)).toNatClampNeg)) ((xs (i + (2 : Int32)).toNatClampNeg)) (0 : Int32)) me_X11_setNeed ml_L_165 iv_X11_setNeed rfl dL_law_1086 (rest := []) rfl rfl ⟨Nat.le_of_ble_eq_true rfl, Nat.le_of_ble_eq_true rfl⟩ ⟨by show 0 + _ ≤ _; omega, by show 0 + _ ≤ _; omega⟩ (Nat.le_of_ble_eq_true rfl) (fun v2 SM1 X2 hI2 => ?_)
    refine j_istore X [(6, .int v2), (5, .int v), (0, .ref b0), (1, .ref (kB κ + 0)), (2, .ref (kB κ + 358)), (3, .ref (kB κ + 387)), (4, .int i)] dL_law_1089 (by decide) rfl ?_
    refine j_aload_n X 4 rfl dL_law_1091 rfl ?_
    refine r_callN X bc1 bs1 hI2 (c_X11_thrown X.tr SM1 _ (zD (kB κ))) me_X11_thrown ml_L_122 iv_X11_thrown rfl dL_law_1092 (rest := []) rfl rfl ⟨Nat.le_of_ble_eq_true rfl, Nat.le_of_ble_eq_true rfl⟩ ⟨by show 0 + _ ≤ _; omega, by show 0 + _ ≤ _; omega⟩ (Nat.le_of_ble_eq_true rfl) (fun v3 u3 => ?_)
    refine j_iload X 1 rfl dL_law_1095 ?_
    refine j_icmp_eq X 1102 dL_law_1097 (by decide) ?_ j_none
    refine j_iload X 1 rfl dL_law_1102 ?_
    refine j_if_ne X 1126 dL_law_1104 (by decide) ?_ ?_
    · refine j_aload_n X 5 rfl dL_law_1107 rfl ?_
      refine j_iconst X (0 : Int32) dL_law_1108 (by rfl) ?_
      refine r_out X hI2 dL_law_1109 ?_
      refine j_iload X 0 rfl dL_law_1110 ?_
      refine jh_if_eq X 1119 dL_law_1112 (by decide) (fun hz8 => ?_) (fun hz8 => ?_)
      · rw [show zl v2 = 0 from if_pos hz8]
        refine j_lconst X (0 : Int64) dL_law_1119 (by rfl) ?_
        refine j_lcmp X dL_law_1120 ?_
        refine jh_if_eq X 1126 dL_law_1121 (by decide) (fun hc9 => ?_) (fun hc9 => j_eq (if_neg (fun e9 => hc9 (lg_cmp0.mpr e9))) j_none)
        refine j_eq (if_pos (lg_cmp0.mp hc9)) ?_
        refine j_goto X 2305 dL_law_1126 (by decide) ?_
        refine j_lv [2, 3, 4, 5, 6] rfl ?_
        exact hrec _ _ _ _ _ hI2
      · rw [show zl v2 = 1 from if_neg hz8]
        refine j_lconst X (1 : Int64) dL_law_1115 (by rfl) ?_
        refine j_goto X 1120 dL_law_1116 (by decide) ?_
        refine j_lcmp X dL_law_1120 ?_
        refine jh_if_eq X 1126 dL_law_1121 (by decide) (fun hc9 => ?_) (fun hc9 => j_eq (if_neg (fun e9 => hc9 (lg_cmp0.mpr e9))) j_none)
        refine j_eq (if_pos (lg_cmp0.mp hc9)) ?_
        refine j_goto X 2305 dL_law_1126 (by decide) ?_
        refine j_lv [2, 3, 4, 5, 6] rfl ?_
        exact hrec _ _ _ _ _ hI2
    · refine j_goto X 2305 dL_law_1126 (by decide) ?_
      refine j_lv [2, 3, 4, 5, 6] rfl ?_
      exact hrec _ _ _ _ _ hI2
  · rw [show bz ((xs (i + (3 : Int32)).toNatClampNeg)) = 1 from if_neg hz9]
    refine j_iconst X (1 : Int32) dL_law_1048 (by rfl) ?_
    refine j_goto X 1053 dL_law_1049 (by decide) ?_
    refine j_aload_n X 3 rfl dL_law_1053 rfl ?_
    refine r_callL X bc1 bs1 hI (c_L_setNeed X.tr S Xm L w hI.2.1 hI.2.2.1 ((xs (i + (1 : Int32)).toNatClampNeg)) ((xs (i + (2 : Int32)).toNatClampNeg)) (1 : Int32)) mh_L_setNeed ml_L_163 st_L_setNeed dL_law_1054 (rest := []) rfl rfl ⟨Nat.le_of_ble_eq_true rfl, Nat.le_of_ble_eq_true rfl⟩ ⟨by show 3 + _ ≤ _; omega, by show 18 + _ ≤ _; omega⟩ (Nat.le_of_ble_eq_true rfl) (fun v S1 X1 hI1 => ?_)
    refine j_istore X [(5, .int v), (0, .ref b0), (1, .ref (kB κ + 0)), (2, .ref (kB κ + 358)), (3, .ref (kB κ + 387)), (4, .int i)] dL_law_1057 (by decide) rfl ?_
    refine j_aload_n X 3 rfl dL_law_1059 rfl ?_
    refine j_aload_n X 1 rfl dL_law_1060 rfl ?_
    refine j_iload X 5 rfl dL_law_1061 ?_
    refine j_iconst X (1 : Int32) dL_law_1063 (by rfl) ?_
    refine j_iadd X dL_law_1064 ?_
    refine r_scr X hI1 dL_law_1065 ?_
    refine j_aload_n X 1 rfl dL_law_1066 rfl ?_
    refine j_iload X 5 rfl dL_law_1067 ?_
    refine j_iconst X (2 : Int32) dL_law_1069 (by rfl) ?_
    refine j_iadd X dL_law_1070 ?_
    refine r_scr X hI1 dL_law_1071 ?_
    refine j_aload_n X 1 rfl dL_law_1072 rfl ?_
    refine j_iload X 5 rfl dL_law_1073 ?_
    refine j_iconst X (3 : Int32) dL_law_1075 (by rfl) ?_
    refine j_iadd X dL_law_1076 ?_
    refine r_scr X hI1 dL_law_1077 ?_
    refine jh_if_eq X 1085 dL_law_1078 (by decide) (fun h9 => absurd h9 hz9) (fun _ => ?_)
    refine j_iconst X (1 : Int32) dL_law_1081 (by rfl) ?_
    refine j_goto X 1086 dL_law_1082 (by decide) ?_
    refine r_callM X bc1 bs1 hI1 (c_X11_setNeed X.tr SM _ (zD (kB κ)) ((xs (i + (1 : Int32)).toNatClampNeg)) ((xs (i + (2 : Int32)).toNatClampNeg)) (1 : Int32)) me_X11_setNeed ml_L_165 iv_X11_setNeed rfl dL_law_1086 (rest := []) rfl rfl ⟨Nat.le_of_ble_eq_true rfl, Nat.le_of_ble_eq_true rfl⟩ ⟨by show 0 + _ ≤ _; omega, by show 0 + _ ≤ _; omega⟩ (Nat.le_of_ble_eq_true rfl) (fun v2 SM1 X2 hI2 => ?_)
    refine j_istore X [(6, .int v2), (5, .int v), (0, .ref b0), (1, .ref (kB κ + 0)), (2, .ref (kB κ + 358)), (3, .ref (kB κ + 387)), (4, .int i)] dL_law_1089 (by decide) rfl ?_
    refine j_aload_n X 4 rfl dL_law_1091 rfl ?_
    refine r_callN X bc1 bs1 hI2 (c_X11_thrown X.tr SM1 _ (zD (kB κ))) me_X11_thrown ml_L_122 iv_X11_thrown rfl dL_law_1092 (rest := []) rfl rfl ⟨Nat.le_of_ble_eq_true rfl, Nat.le_of_ble_eq_true rfl⟩ ⟨by show 0 + _ ≤ _; omega, by show 0 + _ ≤ _; omega⟩ (Nat.le_of_ble_eq_true rfl) (fun v3 u3 => ?_)
    refine j_iload X 1 rfl dL_law_1095 ?_
    refine j_icmp_eq X 1102 dL_law_1097 (by decide) ?_ j_none
    refine j_iload X 1 rfl dL_law_1102 ?_
    refine j_if_ne X 1126 dL_law_1104 (by decide) ?_ ?_
    · refine j_aload_n X 5 rfl dL_law_1107 rfl ?_
      refine j_iconst X (0 : Int32) dL_law_1108 (by rfl) ?_
      refine r_out X hI2 dL_law_1109 ?_
      refine j_iload X 0 rfl dL_law_1110 ?_
      refine jh_if_eq X 1119 dL_law_1112 (by decide) (fun hz8 => ?_) (fun hz8 => ?_)
      · rw [show zl v2 = 0 from if_pos hz8]
        refine j_lconst X (0 : Int64) dL_law_1119 (by rfl) ?_
        refine j_lcmp X dL_law_1120 ?_
        refine jh_if_eq X 1126 dL_law_1121 (by decide) (fun hc9 => ?_) (fun hc9 => j_eq (if_neg (fun e9 => hc9 (lg_cmp0.mpr e9))) j_none)
        refine j_eq (if_pos (lg_cmp0.mp hc9)) ?_
        refine j_goto X 2305 dL_law_1126 (by decide) ?_
        refine j_lv [2, 3, 4, 5, 6] rfl ?_
        exact hrec _ _ _ _ _ hI2
      · rw [show zl v2 = 1 from if_neg hz8]
        refine j_lconst X (1 : Int64) dL_law_1115 (by rfl) ?_
        refine j_goto X 1120 dL_law_1116 (by decide) ?_
        refine j_lcmp X dL_law_1120 ?_
        refine jh_if_eq X 1126 dL_law_1121 (by decide) (fun hc9 => ?_) (fun hc9 => j_eq (if_neg (fun e9 => hc9 (lg_cmp0.mpr e9))) j_none)
        refine j_eq (if_pos (lg_cmp0.mp hc9)) ?_
        refine j_goto X 2305 dL_law_1126 (by decide) ?_
        refine j_lv [2, 3, 4, 5, 6] rfl ?_
        exact hrec _ _ _ _ _ hI2
    · refine j_goto X 2305 dL_law_1126 (by decide) ?_
      refine j_lv [2, 3, 4, 5, 6] rfl ?_
      exact hrec _ _ _ _ _ hI2
def lawC_13 (N : Nat) (xs : Nat → Int32) (i : Int32) (S : jS) (L : jLg) (w : Nat → Int64) (SM : jS) (rec : jS → jLg → (Nat → Int64) → jS → Option Int32) : Option Int32 := chk (inb (i + (1 : Int32)) N) (chk (inb (i + (2 : Int32)) N) (jbin0 (f_L_view S L w (xs (i + (1 : Int32)).toNatClampNeg) (xs (i + (2 : Int32)).toNatClampNeg)) (fun v S1 => chk (inb (i + (1 : Int32)) N) (chk (inb (i + (2 : Int32)) N) (jbin0 (f_X11_view SM (xs (i + (1 : Int32)).toNatClampNeg) (xs (i + (2 : Int32)).toNatClampNeg)) (fun v2 SM1 => jbin0 (f_X11_thrown SM1) (fun v3 _ => if v3 = v then (if v = 0 then (if S1.2.2 0 = v2.toInt64 then rec S1.1 S1.2.1 S1.2.2 SM1 else none) else rec S1.1 S1.2.1 S1.2.2 SM1) else none)))))))
set_option maxHeartbeats 4000000 in
set_option maxRecDepth 100000 in
theorem c_case_13 {κ : jCx} {Qf : Int32 → State → Prop} {b0 N : Nat} {xs : Nat → Int32} {S SM : jS} {L : jLg} {w : Nat → Int64} {Xm : jMem} {i : Int32} {rec : jS → jLg → (Nat → Int64) → jS → Option Int32} (X : jX κ RL code 7 (some .boolean)) (bc1 bs1 : Nat) (hI : GI (kS κ) (kD κ) (kB κ) (kT κ) b0 N xs SM L w Xm) (hrec : ∀ (S : jS) (L : jLg) (w : Nat → Int64) (SM : jS) (Xm : jMem), GI (kS κ) (kD κ) (kB κ) (kT κ) b0 N xs SM L w Xm → J κ 7 room_1 Qf (rec S L w SM) (memG 0 358 (kD κ) (kB κ) S Xm) (zD (kB κ)) bc1 bs1 [(0, .ref b0), (1, .ref (kB κ + 0)), (2, .ref (kB κ + 358)), (3, .ref (kB κ + 387)), (4, .int i)] 2305 []) : J κ 7 room_1 Qf (lawC_13 N xs i S L w SM rec) (memG 0 358 (kD κ) (kB κ) S Xm) (zD (kB κ)) (bc1 + 16) (bs1 + 3000) [(0, .ref b0), (1, .ref (kB κ + 0)), (2, .ref (kB κ + 358)), (3, .ref (kB κ + 387)), (4, .int i)] 1129 [] := by
  unfold lawC_13
  refine j_aload_n X 1 rfl dL_law_1129 rfl ?_
  refine j_aload_n X 0 rfl dL_law_1130 rfl ?_
  refine j_iload X 4 rfl dL_law_1131 ?_
  refine j_iconst X (1 : Int32) dL_law_1133 (by rfl) ?_
  refine j_iadd X dL_law_1134 ?_
  refine r_scr X hI dL_law_1135 ?_
  refine j_aload_n X 0 rfl dL_law_1136 rfl ?_
  refine j_iload X 4 rfl dL_law_1137 ?_
  refine j_iconst X (2 : Int32) dL_law_1139 (by rfl) ?_
  refine j_iadd X dL_law_1140 ?_
  refine r_scr X hI dL_law_1141 ?_
  refine j_aload_n X 3 rfl dL_law_1142 rfl ?_
  refine r_callL X bc1 bs1 hI (c_L_view X.tr S Xm L w hI.2.1 hI.2.2.1 ((xs (i + (1 : Int32)).toNatClampNeg)) ((xs (i + (2 : Int32)).toNatClampNeg))) mh_L_view ml_L_166 st_L_view dL_law_1143 (rest := []) rfl rfl ⟨Nat.le_of_ble_eq_true rfl, Nat.le_of_ble_eq_true rfl⟩ ⟨by show 2 + _ ≤ _; omega, by show 12 + _ ≤ _; omega⟩ (Nat.le_of_ble_eq_true rfl) (fun v S1 X1 hI1 => ?_)
  refine j_istore X [(5, .int v), (0, .ref b0), (1, .ref (kB κ + 0)), (2, .ref (kB κ + 358)), (3, .ref (kB κ + 387)), (4, .int i)] dL_law_1146 (by decide) rfl ?_
  refine j_aload_n X 3 rfl dL_law_1148 rfl ?_
  refine j_aload_n X 1 rfl dL_law_1149 rfl ?_
  refine j_iload X 5 rfl dL_law_1150 ?_
  refine j_iconst X (1 : Int32) dL_law_1152 (by rfl) ?_
  refine j_iadd X dL_law_1153 ?_
  refine r_scr X hI1 dL_law_1154 ?_
  refine j_aload_n X 1 rfl dL_law_1155 rfl ?_
  refine j_iload X 5 rfl dL_law_1156 ?_
  refine j_iconst X (2 : Int32) dL_law_1158 (by rfl) ?_
  refine j_iadd X dL_law_1159 ?_
  refine r_scr X hI1 dL_law_1160 ?_
  refine r_callM X bc1 bs1 hI1 (c_X11_view X.tr SM _ (zD (kB κ)) ((xs (i + (1 : Int32)).toNatClampNeg)) ((xs (i + (2 : Int32)).toNatClampNeg))) me_X11_view ml_L_168 iv_X11_view rfl dL_law_1161 (rest := []) rfl rfl ⟨Nat.le_of_ble_eq_true rfl, Nat.le_of_ble_eq_true rfl⟩ ⟨by show 0 + _ ≤ _; omega, by show 0 + _ ≤ _; omega⟩ (Nat.le_of_ble_eq_true rfl) (fun v2 SM1 X2 hI2 => ?_)
  refine j_istore X [(6, .int v2), (5, .int v), (0, .ref b0), (1, .ref (kB κ + 0)), (2, .ref (kB κ + 358)), (3, .ref (kB κ + 387)), (4, .int i)] dL_law_1164 (by decide) rfl ?_
  refine j_aload_n X 4 rfl dL_law_1166 rfl ?_
  refine r_callN X bc1 bs1 hI2 (c_X11_thrown X.tr SM1 _ (zD (kB κ))) me_X11_thrown ml_L_122 iv_X11_thrown rfl dL_law_1167 (rest := []) rfl rfl ⟨Nat.le_of_ble_eq_true rfl, Nat.le_of_ble_eq_true rfl⟩ ⟨by show 0 + _ ≤ _; omega, by show 0 + _ ≤ _; omega⟩ (Nat.le_of_ble_eq_true rfl) (fun v3 u3 => ?_)
  refine j_iload X 1 rfl dL_law_1170 ?_
  refine j_icmp_eq X 1177 dL_law_1172 (by decide) ?_ j_none
  refine j_iload X 1 rfl dL_law_1177 ?_
  refine j_if_ne X 1194 dL_law_1179 (by decide) ?_ ?_
  · refine j_aload_n X 5 rfl dL_law_1182 rfl ?_
    refine j_iconst X (0 : Int32) dL_law_1183 (by rfl) ?_
    refine r_out X hI2 dL_law_1184 ?_
    refine j_iload X 0 rfl dL_law_1185 ?_
    refine j_i2l X dL_law_1187 ?_
    refine j_lcmp X dL_law_1188 ?_
    refine jh_if_eq X 1194 dL_law_1189 (by decide) (fun hc9 => ?_) (fun hc9 => j_eq (if_neg (fun e9 => hc9 (lg_cmp0.mpr e9))) j_none)
    refine j_eq (if_pos (lg_cmp0.mp hc9)) ?_
    refine j_goto X 2305 dL_law_1194 (by decide) ?_
    refine j_lv [2, 3, 4, 5, 6] rfl ?_
    exact hrec _ _ _ _ _ hI2
  · refine j_goto X 2305 dL_law_1194 (by decide) ?_
    refine j_lv [2, 3, 4, 5, 6] rfl ?_
    exact hrec _ _ _ _ _ hI2
def lawC_14 (N : Nat) (xs : Nat → Int32) (i : Int32) (S : jS) (L : jLg) (w : Nat → Int64) (SM : jS) (rec : jS → jLg → (Nat → Int64) → jS → Option Int32) : Option Int32 := chk (inb (i + (1 : Int32)) N) (chk (inb (i + (2 : Int32)) N) (jbin0 (f_L_viewByLog S L w (xs (i + (1 : Int32)).toNatClampNeg) (xs (i + (2 : Int32)).toNatClampNeg)) (fun v S1 => chk (inb (i + (1 : Int32)) N) (chk (inb (i + (2 : Int32)) N) (jbin0 (f_X11_viewByLog SM (xs (i + (1 : Int32)).toNatClampNeg) (xs (i + (2 : Int32)).toNatClampNeg)) (fun v2 SM1 => jbin0 (f_X11_thrown SM1) (fun v3 _ => if v3 = v then (if v = 0 then (if S1.2.2 0 = v2.toInt64 then rec S1.1 S1.2.1 S1.2.2 SM1 else none) else rec S1.1 S1.2.1 S1.2.2 SM1) else none)))))))
set_option maxHeartbeats 4000000 in
set_option maxRecDepth 100000 in
theorem c_case_14 {κ : jCx} {Qf : Int32 → State → Prop} {b0 N : Nat} {xs : Nat → Int32} {S SM : jS} {L : jLg} {w : Nat → Int64} {Xm : jMem} {i : Int32} {rec : jS → jLg → (Nat → Int64) → jS → Option Int32} (X : jX κ RL code 7 (some .boolean)) (bc1 bs1 : Nat) (hI : GI (kS κ) (kD κ) (kB κ) (kT κ) b0 N xs SM L w Xm) (hrec : ∀ (S : jS) (L : jLg) (w : Nat → Int64) (SM : jS) (Xm : jMem), GI (kS κ) (kD κ) (kB κ) (kT κ) b0 N xs SM L w Xm → J κ 7 room_1 Qf (rec S L w SM) (memG 0 358 (kD κ) (kB κ) S Xm) (zD (kB κ)) bc1 bs1 [(0, .ref b0), (1, .ref (kB κ + 0)), (2, .ref (kB κ + 358)), (3, .ref (kB κ + 387)), (4, .int i)] 2305 []) : J κ 7 room_1 Qf (lawC_14 N xs i S L w SM rec) (memG 0 358 (kD κ) (kB κ) S Xm) (zD (kB κ)) (bc1 + 16) (bs1 + 3000) [(0, .ref b0), (1, .ref (kB κ + 0)), (2, .ref (kB κ + 358)), (3, .ref (kB κ + 387)), (4, .int i)] 1197 [] := by
  unfold lawC_14
  refine j_aload_n X 1 rfl dL_law_1197 rfl ?_
  refine j_aload_n X 0 rfl dL_law_1198 rfl ?_
  refine j_iload X 4 rfl dL_law_1199 ?_
  refine j_iconst X (1 : Int32) dL_law_1201 (by rfl) ?_
  refine j_iadd X dL_law_1202 ?_
  refine r_scr X hI dL_law_1203 ?_
  refine j_aload_n X 0 rfl dL_law_1204 rfl ?_
  refine j_iload X 4 rfl dL_law_1205 ?_
  refine j_iconst X (2 : Int32) dL_law_1207 (by rfl) ?_
  refine j_iadd X dL_law_1208 ?_
  refine r_scr X hI dL_law_1209 ?_
  refine j_aload_n X 3 rfl dL_law_1210 rfl ?_
  refine r_callL X bc1 bs1 hI (c_L_viewByLog X.tr S Xm L w hI.2.1 hI.2.2.1 ((xs (i + (1 : Int32)).toNatClampNeg)) ((xs (i + (2 : Int32)).toNatClampNeg))) mh_L_viewByLog ml_L_169 st_L_viewByLog dL_law_1211 (rest := []) rfl rfl ⟨Nat.le_of_ble_eq_true rfl, Nat.le_of_ble_eq_true rfl⟩ ⟨by show 2 + _ ≤ _; omega, by show 12 + _ ≤ _; omega⟩ (Nat.le_of_ble_eq_true rfl) (fun v S1 X1 hI1 => ?_)
  refine j_istore X [(5, .int v), (0, .ref b0), (1, .ref (kB κ + 0)), (2, .ref (kB κ + 358)), (3, .ref (kB κ + 387)), (4, .int i)] dL_law_1214 (by decide) rfl ?_
  refine j_aload_n X 3 rfl dL_law_1216 rfl ?_
  refine j_aload_n X 1 rfl dL_law_1217 rfl ?_
  refine j_iload X 5 rfl dL_law_1218 ?_
  refine j_iconst X (1 : Int32) dL_law_1220 (by rfl) ?_
  refine j_iadd X dL_law_1221 ?_
  refine r_scr X hI1 dL_law_1222 ?_
  refine j_aload_n X 1 rfl dL_law_1223 rfl ?_
  refine j_iload X 5 rfl dL_law_1224 ?_
  refine j_iconst X (2 : Int32) dL_law_1226 (by rfl) ?_
  refine j_iadd X dL_law_1227 ?_
  refine r_scr X hI1 dL_law_1228 ?_
  refine r_callM X bc1 bs1 hI1 (c_X11_viewByLog X.tr SM _ (zD (kB κ)) ((xs (i + (1 : Int32)).toNatClampNeg)) ((xs (i + (2 : Int32)).toNatClampNeg))) me_X11_viewByLog ml_L_171 iv_X11_viewByLog rfl dL_law_1229 (rest := []) rfl rfl ⟨Nat.le_of_ble_eq_true rfl, Nat.le_of_ble_eq_true rfl⟩ ⟨by show 0 + _ ≤ _; omega, by show 0 + _ ≤ _; omega⟩ (Nat.le_of_ble_eq_true rfl) (fun v2 SM1 X2 hI2 => ?_)
  refine j_istore X [(6, .int v2), (5, .int v), (0, .ref b0), (1, .ref (kB κ + 0)), (2, .ref (kB κ + 358)), (3, .ref (kB κ + 387)), (4, .int i)] dL_law_1232 (by decide) rfl ?_
  refine j_aload_n X 4 rfl dL_law_1234 rfl ?_
  refine r_callN X bc1 bs1 hI2 (c_X11_thrown X.tr SM1 _ (zD (kB κ))) me_X11_thrown ml_L_122 iv_X11_thrown rfl dL_law_1235 (rest := []) rfl rfl ⟨Nat.le_of_ble_eq_true rfl, Nat.le_of_ble_eq_true rfl⟩ ⟨by show 0 + _ ≤ _; omega, by show 0 + _ ≤ _; omega⟩ (Nat.le_of_ble_eq_true rfl) (fun v3 u3 => ?_)
  refine j_iload X 1 rfl dL_law_1238 ?_
  refine j_icmp_eq X 1245 dL_law_1240 (by decide) ?_ j_none
  refine j_iload X 1 rfl dL_law_1245 ?_
  refine j_if_ne X 1262 dL_law_1247 (by decide) ?_ ?_
  · refine j_aload_n X 5 rfl dL_law_1250 rfl ?_
    refine j_iconst X (0 : Int32) dL_law_1251 (by rfl) ?_
    refine r_out X hI2 dL_law_1252 ?_
    refine j_iload X 0 rfl dL_law_1253 ?_
    refine j_i2l X dL_law_1255 ?_
    refine j_lcmp X dL_law_1256 ?_
    refine jh_if_eq X 1262 dL_law_1257 (by decide) (fun hc9 => ?_) (fun hc9 => j_eq (if_neg (fun e9 => hc9 (lg_cmp0.mpr e9))) j_none)
    refine j_eq (if_pos (lg_cmp0.mp hc9)) ?_
    refine j_goto X 2305 dL_law_1262 (by decide) ?_
    refine j_lv [2, 3, 4, 5, 6] rfl ?_
    exact hrec _ _ _ _ _ hI2
  · refine j_goto X 2305 dL_law_1262 (by decide) ?_
    refine j_lv [2, 3, 4, 5, 6] rfl ?_
    exact hrec _ _ _ _ _ hI2
def lawC_15 (N : Nat) (xs : Nat → Int32) (i : Int32) (S : jS) (L : jLg) (w : Nat → Int64) (SM : jS) (rec : jS → jLg → (Nat → Int64) → jS → Option Int32) : Option Int32 := chk (inb (i + (1 : Int32)) N) (chk (inb (i + (2 : Int32)) N) (jbin0 (f_L_ruleFor S L w (xs (i + (1 : Int32)).toNatClampNeg) (xs (i + (2 : Int32)).toNatClampNeg)) (fun v S1 => chk (inb (i + (1 : Int32)) N) (chk (inb (i + (2 : Int32)) N) (jbin0 (f_X11_ruleFor SM (xs (i + (1 : Int32)).toNatClampNeg) (xs (i + (2 : Int32)).toNatClampNeg)) (fun v2 SM1 => jbin0 (f_X11_thrown SM1) (fun v3 _ => if v3 = v then (if v = 0 then (if S1.2.2 0 = v2.toInt64 then rec S1.1 S1.2.1 S1.2.2 SM1 else none) else rec S1.1 S1.2.1 S1.2.2 SM1) else none)))))))
set_option maxHeartbeats 4000000 in
set_option maxRecDepth 100000 in
theorem c_case_15 {κ : jCx} {Qf : Int32 → State → Prop} {b0 N : Nat} {xs : Nat → Int32} {S SM : jS} {L : jLg} {w : Nat → Int64} {Xm : jMem} {i : Int32} {rec : jS → jLg → (Nat → Int64) → jS → Option Int32} (X : jX κ RL code 7 (some .boolean)) (bc1 bs1 : Nat) (hI : GI (kS κ) (kD κ) (kB κ) (kT κ) b0 N xs SM L w Xm) (hrec : ∀ (S : jS) (L : jLg) (w : Nat → Int64) (SM : jS) (Xm : jMem), GI (kS κ) (kD κ) (kB κ) (kT κ) b0 N xs SM L w Xm → J κ 7 room_1 Qf (rec S L w SM) (memG 0 358 (kD κ) (kB κ) S Xm) (zD (kB κ)) bc1 bs1 [(0, .ref b0), (1, .ref (kB κ + 0)), (2, .ref (kB κ + 358)), (3, .ref (kB κ + 387)), (4, .int i)] 2305 []) : J κ 7 room_1 Qf (lawC_15 N xs i S L w SM rec) (memG 0 358 (kD κ) (kB κ) S Xm) (zD (kB κ)) (bc1 + 16) (bs1 + 3000) [(0, .ref b0), (1, .ref (kB κ + 0)), (2, .ref (kB κ + 358)), (3, .ref (kB κ + 387)), (4, .int i)] 1265 [] := by
  unfold lawC_15
  refine j_aload_n X 1 rfl dL_law_1265 rfl ?_
  refine j_aload_n X 0 rfl dL_law_1266 rfl ?_
  refine j_iload X 4 rfl dL_law_1267 ?_
  refine j_iconst X (1 : Int32) dL_law_1269 (by rfl) ?_
  refine j_iadd X dL_law_1270 ?_
  refine r_scr X hI dL_law_1271 ?_
  refine j_aload_n X 0 rfl dL_law_1272 rfl ?_
  refine j_iload X 4 rfl dL_law_1273 ?_
  refine j_iconst X (2 : Int32) dL_law_1275 (by rfl) ?_
  refine j_iadd X dL_law_1276 ?_
  refine r_scr X hI dL_law_1277 ?_
  refine j_aload_n X 3 rfl dL_law_1278 rfl ?_
  refine r_callL X bc1 bs1 hI (c_L_ruleFor X.tr S Xm L w hI.2.1 hI.2.2.1 ((xs (i + (1 : Int32)).toNatClampNeg)) ((xs (i + (2 : Int32)).toNatClampNeg))) mh_L_ruleFor ml_L_172 st_L_ruleFor dL_law_1279 (rest := []) rfl rfl ⟨Nat.le_of_ble_eq_true rfl, Nat.le_of_ble_eq_true rfl⟩ ⟨by show 2 + _ ≤ _; omega, by show 12 + _ ≤ _; omega⟩ (Nat.le_of_ble_eq_true rfl) (fun v S1 X1 hI1 => ?_)
  refine j_istore X [(5, .int v), (0, .ref b0), (1, .ref (kB κ + 0)), (2, .ref (kB κ + 358)), (3, .ref (kB κ + 387)), (4, .int i)] dL_law_1282 (by decide) rfl ?_
  refine j_aload_n X 3 rfl dL_law_1284 rfl ?_
  refine j_aload_n X 1 rfl dL_law_1285 rfl ?_
  refine j_iload X 5 rfl dL_law_1286 ?_
  refine j_iconst X (1 : Int32) dL_law_1288 (by rfl) ?_
  refine j_iadd X dL_law_1289 ?_
  refine r_scr X hI1 dL_law_1290 ?_
  refine j_aload_n X 1 rfl dL_law_1291 rfl ?_
  refine j_iload X 5 rfl dL_law_1292 ?_
  refine j_iconst X (2 : Int32) dL_law_1294 (by rfl) ?_
  refine j_iadd X dL_law_1295 ?_
  refine r_scr X hI1 dL_law_1296 ?_
  refine r_callM X bc1 bs1 hI1 (c_X11_ruleFor X.tr SM _ (zD (kB κ)) ((xs (i + (1 : Int32)).toNatClampNeg)) ((xs (i + (2 : Int32)).toNatClampNeg))) me_X11_ruleFor ml_L_174 iv_X11_ruleFor rfl dL_law_1297 (rest := []) rfl rfl ⟨Nat.le_of_ble_eq_true rfl, Nat.le_of_ble_eq_true rfl⟩ ⟨by show 0 + _ ≤ _; omega, by show 0 + _ ≤ _; omega⟩ (Nat.le_of_ble_eq_true rfl) (fun v2 SM1 X2 hI2 => ?_)
  refine j_istore X [(6, .int v2), (5, .int v), (0, .ref b0), (1, .ref (kB κ + 0)), (2, .ref (kB κ + 358)), (3, .ref (kB κ + 387)), (4, .int i)] dL_law_1300 (by decide) rfl ?_
  refine j_aload_n X 4 rfl dL_law_1302 rfl ?_
  refine r_callN X bc1 bs1 hI2 (c_X11_thrown X.tr SM1 _ (zD (kB κ))) me_X11_thrown ml_L_122 iv_X11_thrown rfl dL_law_1303 (rest := []) rfl rfl ⟨Nat.le_of_ble_eq_true rfl, Nat.le_of_ble_eq_true rfl⟩ ⟨by show 0 + _ ≤ _; omega, by show 0 + _ ≤ _; omega⟩ (Nat.le_of_ble_eq_true rfl) (fun v3 u3 => ?_)
  refine j_iload X 1 rfl dL_law_1306 ?_
  refine j_icmp_eq X 1313 dL_law_1308 (by decide) ?_ j_none
  refine j_iload X 1 rfl dL_law_1313 ?_
  refine j_if_ne X 1330 dL_law_1315 (by decide) ?_ ?_
  · refine j_aload_n X 5 rfl dL_law_1318 rfl ?_
    refine j_iconst X (0 : Int32) dL_law_1319 (by rfl) ?_
    refine r_out X hI2 dL_law_1320 ?_
    refine j_iload X 0 rfl dL_law_1321 ?_
    refine j_i2l X dL_law_1323 ?_
    refine j_lcmp X dL_law_1324 ?_
    refine jh_if_eq X 1330 dL_law_1325 (by decide) (fun hc9 => ?_) (fun hc9 => j_eq (if_neg (fun e9 => hc9 (lg_cmp0.mpr e9))) j_none)
    refine j_eq (if_pos (lg_cmp0.mp hc9)) ?_
    refine j_goto X 2305 dL_law_1330 (by decide) ?_
    refine j_lv [2, 3, 4, 5, 6] rfl ?_
    exact hrec _ _ _ _ _ hI2
  · refine j_goto X 2305 dL_law_1330 (by decide) ?_
    refine j_lv [2, 3, 4, 5, 6] rfl ?_
    exact hrec _ _ _ _ _ hI2
def lawC_16 (N : Nat) (xs : Nat → Int32) (i : Int32) (S : jS) (L : jLg) (w : Nat → Int64) (SM : jS) (rec : jS → jLg → (Nat → Int64) → jS → Option Int32) : Option Int32 := chk (inb (i + (1 : Int32)) N) (chk (inb (i + (2 : Int32)) N) (jbin0 (f_L_reach S L w (xs (i + (1 : Int32)).toNatClampNeg) (xs (i + (2 : Int32)).toNatClampNeg)) (fun v S1 => chk (inb (i + (1 : Int32)) N) (chk (inb (i + (2 : Int32)) N) (jbin0 (f_X11_reach SM (xs (i + (1 : Int32)).toNatClampNeg) (xs (i + (2 : Int32)).toNatClampNeg)) (fun v2 SM1 => jbin0 (f_X11_thrown SM1) (fun v3 _ => if v3 = v then (if v = 0 then (if S1.2.2 0 = v2.toInt64 then rec S1.1 S1.2.1 S1.2.2 SM1 else none) else rec S1.1 S1.2.1 S1.2.2 SM1) else none)))))))
set_option maxHeartbeats 4000000 in
set_option maxRecDepth 100000 in
theorem c_case_16 {κ : jCx} {Qf : Int32 → State → Prop} {b0 N : Nat} {xs : Nat → Int32} {S SM : jS} {L : jLg} {w : Nat → Int64} {Xm : jMem} {i : Int32} {rec : jS → jLg → (Nat → Int64) → jS → Option Int32} (X : jX κ RL code 7 (some .boolean)) (bc1 bs1 : Nat) (hI : GI (kS κ) (kD κ) (kB κ) (kT κ) b0 N xs SM L w Xm) (hrec : ∀ (S : jS) (L : jLg) (w : Nat → Int64) (SM : jS) (Xm : jMem), GI (kS κ) (kD κ) (kB κ) (kT κ) b0 N xs SM L w Xm → J κ 7 room_1 Qf (rec S L w SM) (memG 0 358 (kD κ) (kB κ) S Xm) (zD (kB κ)) bc1 bs1 [(0, .ref b0), (1, .ref (kB κ + 0)), (2, .ref (kB κ + 358)), (3, .ref (kB κ + 387)), (4, .int i)] 2305 []) : J κ 7 room_1 Qf (lawC_16 N xs i S L w SM rec) (memG 0 358 (kD κ) (kB κ) S Xm) (zD (kB κ)) (bc1 + 16) (bs1 + 3000) [(0, .ref b0), (1, .ref (kB κ + 0)), (2, .ref (kB κ + 358)), (3, .ref (kB κ + 387)), (4, .int i)] 1333 [] := by
  unfold lawC_16
  refine j_aload_n X 1 rfl dL_law_1333 rfl ?_
  refine j_aload_n X 0 rfl dL_law_1334 rfl ?_
  refine j_iload X 4 rfl dL_law_1335 ?_
  refine j_iconst X (1 : Int32) dL_law_1337 (by rfl) ?_
  refine j_iadd X dL_law_1338 ?_
  refine r_scr X hI dL_law_1339 ?_
  refine j_aload_n X 0 rfl dL_law_1340 rfl ?_
  refine j_iload X 4 rfl dL_law_1341 ?_
  refine j_iconst X (2 : Int32) dL_law_1343 (by rfl) ?_
  refine j_iadd X dL_law_1344 ?_
  refine r_scr X hI dL_law_1345 ?_
  refine j_aload_n X 3 rfl dL_law_1346 rfl ?_
  refine r_callL X bc1 bs1 hI (c_L_reach X.tr S Xm L w hI.2.1 hI.2.2.1 ((xs (i + (1 : Int32)).toNatClampNeg)) ((xs (i + (2 : Int32)).toNatClampNeg))) mh_L_reach ml_L_175 st_L_reach dL_law_1347 (rest := []) rfl rfl ⟨Nat.le_of_ble_eq_true rfl, Nat.le_of_ble_eq_true rfl⟩ ⟨by show 2 + _ ≤ _; omega, by show 12 + _ ≤ _; omega⟩ (Nat.le_of_ble_eq_true rfl) (fun v S1 X1 hI1 => ?_)
  refine j_istore X [(5, .int v), (0, .ref b0), (1, .ref (kB κ + 0)), (2, .ref (kB κ + 358)), (3, .ref (kB κ + 387)), (4, .int i)] dL_law_1350 (by decide) rfl ?_
  refine j_aload_n X 3 rfl dL_law_1352 rfl ?_
  refine j_aload_n X 1 rfl dL_law_1353 rfl ?_
  refine j_iload X 5 rfl dL_law_1354 ?_
  refine j_iconst X (1 : Int32) dL_law_1356 (by rfl) ?_
  refine j_iadd X dL_law_1357 ?_
  refine r_scr X hI1 dL_law_1358 ?_
  refine j_aload_n X 1 rfl dL_law_1359 rfl ?_
  refine j_iload X 5 rfl dL_law_1360 ?_
  refine j_iconst X (2 : Int32) dL_law_1362 (by rfl) ?_
  refine j_iadd X dL_law_1363 ?_
  refine r_scr X hI1 dL_law_1364 ?_
  refine r_callM X bc1 bs1 hI1 (c_X11_reach X.tr SM _ (zD (kB κ)) ((xs (i + (1 : Int32)).toNatClampNeg)) ((xs (i + (2 : Int32)).toNatClampNeg))) me_X11_reach ml_L_177 iv_X11_reach rfl dL_law_1365 (rest := []) rfl rfl ⟨Nat.le_of_ble_eq_true rfl, Nat.le_of_ble_eq_true rfl⟩ ⟨by show 0 + _ ≤ _; omega, by show 0 + _ ≤ _; omega⟩ (Nat.le_of_ble_eq_true rfl) (fun v2 SM1 X2 hI2 => ?_)
  refine j_istore X [(6, .int v2), (5, .int v), (0, .ref b0), (1, .ref (kB κ + 0)), (2, .ref (kB κ + 358)), (3, .ref (kB κ + 387)), (4, .int i)] dL_law_1368 (by decide) rfl ?_
  refine j_aload_n X 4 rfl dL_law_1370 rfl ?_
  refine r_callN X bc1 bs1 hI2 (c_X11_thrown X.tr SM1 _ (zD (kB κ))) me_X11_thrown ml_L_122 iv_X11_thrown rfl dL_law_1371 (rest := []) rfl rfl ⟨Nat.le_of_ble_eq_true rfl, Nat.le_of_ble_eq_true rfl⟩ ⟨by show 0 + _ ≤ _; omega, by show 0 + _ ≤ _; omega⟩ (Nat.le_of_ble_eq_true rfl) (fun v3 u3 => ?_)
  refine j_iload X 1 rfl dL_law_1374 ?_
  refine j_icmp_eq X 1381 dL_law_1376 (by decide) ?_ j_none
  refine j_iload X 1 rfl dL_law_1381 ?_
  refine j_if_ne X 1398 dL_law_1383 (by decide) ?_ ?_
  · refine j_aload_n X 5 rfl dL_law_1386 rfl ?_
    refine j_iconst X (0 : Int32) dL_law_1387 (by rfl) ?_
    refine r_out X hI2 dL_law_1388 ?_
    refine j_iload X 0 rfl dL_law_1389 ?_
    refine j_i2l X dL_law_1391 ?_
    refine j_lcmp X dL_law_1392 ?_
    refine jh_if_eq X 1398 dL_law_1393 (by decide) (fun hc9 => ?_) (fun hc9 => j_eq (if_neg (fun e9 => hc9 (lg_cmp0.mpr e9))) j_none)
    refine j_eq (if_pos (lg_cmp0.mp hc9)) ?_
    refine j_goto X 2305 dL_law_1398 (by decide) ?_
    refine j_lv [2, 3, 4, 5, 6] rfl ?_
    exact hrec _ _ _ _ _ hI2
  · refine j_goto X 2305 dL_law_1398 (by decide) ?_
    refine j_lv [2, 3, 4, 5, 6] rfl ?_
    exact hrec _ _ _ _ _ hI2
def lawC_17 (N : Nat) (xs : Nat → Int32) (i : Int32) (S : jS) (L : jLg) (w : Nat → Int64) (SM : jS) (rec : jS → jLg → (Nat → Int64) → jS → Option Int32) : Option Int32 := chk (inb (i + (1 : Int32)) N) (chk (inb (i + (2 : Int32)) N) (jbin0 (f_L_show S L w (xs (i + (1 : Int32)).toNatClampNeg) (xs (i + (2 : Int32)).toNatClampNeg)) (fun v S1 => chk (inb (i + (1 : Int32)) N) (chk (inb (i + (2 : Int32)) N) (jbin0 (f_X11_show SM (xs (i + (1 : Int32)).toNatClampNeg) (xs (i + (2 : Int32)).toNatClampNeg)) (fun v2 SM1 => jbin0 (f_X11_thrown SM1) (fun v3 _ => if v3 = v then (if v = 0 then (if S1.2.2 0 = v2.toInt64 then rec S1.1 S1.2.1 S1.2.2 SM1 else none) else rec S1.1 S1.2.1 S1.2.2 SM1) else none)))))))
set_option maxHeartbeats 4000000 in
set_option maxRecDepth 100000 in
theorem c_case_17 {κ : jCx} {Qf : Int32 → State → Prop} {b0 N : Nat} {xs : Nat → Int32} {S SM : jS} {L : jLg} {w : Nat → Int64} {Xm : jMem} {i : Int32} {rec : jS → jLg → (Nat → Int64) → jS → Option Int32} (X : jX κ RL code 7 (some .boolean)) (bc1 bs1 : Nat) (hI : GI (kS κ) (kD κ) (kB κ) (kT κ) b0 N xs SM L w Xm) (hrec : ∀ (S : jS) (L : jLg) (w : Nat → Int64) (SM : jS) (Xm : jMem), GI (kS κ) (kD κ) (kB κ) (kT κ) b0 N xs SM L w Xm → J κ 7 room_1 Qf (rec S L w SM) (memG 0 358 (kD κ) (kB κ) S Xm) (zD (kB κ)) bc1 bs1 [(0, .ref b0), (1, .ref (kB κ + 0)), (2, .ref (kB κ + 358)), (3, .ref (kB κ + 387)), (4, .int i)] 2305 []) : J κ 7 room_1 Qf (lawC_17 N xs i S L w SM rec) (memG 0 358 (kD κ) (kB κ) S Xm) (zD (kB κ)) (bc1 + 16) (bs1 + 3000) [(0, .ref b0), (1, .ref (kB κ + 0)), (2, .ref (kB κ + 358)), (3, .ref (kB κ + 387)), (4, .int i)] 1401 [] := by
  unfold lawC_17
  refine j_aload_n X 1 rfl dL_law_1401 rfl ?_
  refine j_aload_n X 0 rfl dL_law_1402 rfl ?_
  refine j_iload X 4 rfl dL_law_1403 ?_
  refine j_iconst X (1 : Int32) dL_law_1405 (by rfl) ?_
  refine j_iadd X dL_law_1406 ?_
  refine r_scr X hI dL_law_1407 ?_
  refine j_aload_n X 0 rfl dL_law_1408 rfl ?_
  refine j_iload X 4 rfl dL_law_1409 ?_
  refine j_iconst X (2 : Int32) dL_law_1411 (by rfl) ?_
  refine j_iadd X dL_law_1412 ?_
  refine r_scr X hI dL_law_1413 ?_
  refine j_aload_n X 3 rfl dL_law_1414 rfl ?_
  refine r_callL X bc1 bs1 hI (c_L_show X.tr S Xm L w hI.2.1 hI.2.2.1 ((xs (i + (1 : Int32)).toNatClampNeg)) ((xs (i + (2 : Int32)).toNatClampNeg))) mh_L_show ml_L_178 st_L_show dL_law_1415 (rest := []) rfl rfl ⟨Nat.le_of_ble_eq_true rfl, Nat.le_of_ble_eq_true rfl⟩ ⟨by show 5 + _ ≤ _; omega, by show 623 + _ ≤ _; omega⟩ (Nat.le_of_ble_eq_true rfl) (fun v S1 X1 hI1 => ?_)
  refine j_istore X [(5, .int v), (0, .ref b0), (1, .ref (kB κ + 0)), (2, .ref (kB κ + 358)), (3, .ref (kB κ + 387)), (4, .int i)] dL_law_1418 (by decide) rfl ?_
  refine j_aload_n X 3 rfl dL_law_1420 rfl ?_
  refine j_aload_n X 1 rfl dL_law_1421 rfl ?_
  refine j_iload X 5 rfl dL_law_1422 ?_
  refine j_iconst X (1 : Int32) dL_law_1424 (by rfl) ?_
  refine j_iadd X dL_law_1425 ?_
  refine r_scr X hI1 dL_law_1426 ?_
  refine j_aload_n X 1 rfl dL_law_1427 rfl ?_
  refine j_iload X 5 rfl dL_law_1428 ?_
  refine j_iconst X (2 : Int32) dL_law_1430 (by rfl) ?_
  refine j_iadd X dL_law_1431 ?_
  refine r_scr X hI1 dL_law_1432 ?_
  refine r_callM X bc1 bs1 hI1 (c_X11_show X.tr SM _ (zD (kB κ)) ((xs (i + (1 : Int32)).toNatClampNeg)) ((xs (i + (2 : Int32)).toNatClampNeg))) me_X11_show ml_L_180 iv_X11_show rfl dL_law_1433 (rest := []) rfl rfl ⟨Nat.le_of_ble_eq_true rfl, Nat.le_of_ble_eq_true rfl⟩ ⟨by show 0 + _ ≤ _; omega, by show 0 + _ ≤ _; omega⟩ (Nat.le_of_ble_eq_true rfl) (fun v2 SM1 X2 hI2 => ?_)
  refine j_istore X [(6, .int v2), (5, .int v), (0, .ref b0), (1, .ref (kB κ + 0)), (2, .ref (kB κ + 358)), (3, .ref (kB κ + 387)), (4, .int i)] dL_law_1436 (by decide) rfl ?_
  refine j_aload_n X 4 rfl dL_law_1438 rfl ?_
  refine r_callN X bc1 bs1 hI2 (c_X11_thrown X.tr SM1 _ (zD (kB κ))) me_X11_thrown ml_L_122 iv_X11_thrown rfl dL_law_1439 (rest := []) rfl rfl ⟨Nat.le_of_ble_eq_true rfl, Nat.le_of_ble_eq_true rfl⟩ ⟨by show 0 + _ ≤ _; omega, by show 0 + _ ≤ _; omega⟩ (Nat.le_of_ble_eq_true rfl) (fun v3 u3 => ?_)
  refine j_iload X 1 rfl dL_law_1442 ?_
  refine j_icmp_eq X 1449 dL_law_1444 (by decide) ?_ j_none
  refine j_iload X 1 rfl dL_law_1449 ?_
  refine j_if_ne X 1466 dL_law_1451 (by decide) ?_ ?_
  · refine j_aload_n X 5 rfl dL_law_1454 rfl ?_
    refine j_iconst X (0 : Int32) dL_law_1455 (by rfl) ?_
    refine r_out X hI2 dL_law_1456 ?_
    refine j_iload X 0 rfl dL_law_1457 ?_
    refine j_i2l X dL_law_1459 ?_
    refine j_lcmp X dL_law_1460 ?_
    refine jh_if_eq X 1466 dL_law_1461 (by decide) (fun hc9 => ?_) (fun hc9 => j_eq (if_neg (fun e9 => hc9 (lg_cmp0.mpr e9))) j_none)
    refine j_eq (if_pos (lg_cmp0.mp hc9)) ?_
    refine j_goto X 2305 dL_law_1466 (by decide) ?_
    refine j_lv [2, 3, 4, 5, 6] rfl ?_
    exact hrec _ _ _ _ _ hI2
  · refine j_goto X 2305 dL_law_1466 (by decide) ?_
    refine j_lv [2, 3, 4, 5, 6] rfl ?_
    exact hrec _ _ _ _ _ hI2
def lawC_18 (N : Nat) (xs : Nat → Int32) (i : Int32) (S : jS) (L : jLg) (w : Nat → Int64) (SM : jS) (rec : jS → jLg → (Nat → Int64) → jS → Option Int32) : Option Int32 := chk (inb (i + (1 : Int32)) N) (chk (inb (i + (2 : Int32)) N) (chk (inb (i + (3 : Int32)) N) (chk (inb (i + (4 : Int32)) N) (chk (inb (i + (5 : Int32)) N) (jbin0 (f_L_setShares S L w (xs (i + (1 : Int32)).toNatClampNeg) (xs (i + (2 : Int32)).toNatClampNeg) (xs (i + (3 : Int32)).toNatClampNeg) (xs (i + (4 : Int32)).toNatClampNeg) (xs (i + (5 : Int32)).toNatClampNeg)) (fun v S1 => chk (inb (i + (1 : Int32)) N) (chk (inb (i + (2 : Int32)) N) (chk (inb (i + (3 : Int32)) N) (chk (inb (i + (4 : Int32)) N) (chk (inb (i + (5 : Int32)) N) (jbin0 (f_X11_setShares SM (xs (i + (1 : Int32)).toNatClampNeg) (xs (i + (2 : Int32)).toNatClampNeg) (xs (i + (3 : Int32)).toNatClampNeg) (xs (i + (4 : Int32)).toNatClampNeg) (xs (i + (5 : Int32)).toNatClampNeg)) (fun v2 SM1 => jbin0 (f_X11_thrown SM1) (fun v3 _ => if v3 = v then (if v = 0 then (if S1.2.2 0 = v2.toInt64 then rec S1.1 S1.2.1 S1.2.2 SM1 else none) else rec S1.1 S1.2.1 S1.2.2 SM1) else none)))))))))))))
set_option maxHeartbeats 4000000 in
set_option maxRecDepth 100000 in
theorem c_case_18 {κ : jCx} {Qf : Int32 → State → Prop} {b0 N : Nat} {xs : Nat → Int32} {S SM : jS} {L : jLg} {w : Nat → Int64} {Xm : jMem} {i : Int32} {rec : jS → jLg → (Nat → Int64) → jS → Option Int32} (X : jX κ RL code 7 (some .boolean)) (bc1 bs1 : Nat) (hI : GI (kS κ) (kD κ) (kB κ) (kT κ) b0 N xs SM L w Xm) (hrec : ∀ (S : jS) (L : jLg) (w : Nat → Int64) (SM : jS) (Xm : jMem), GI (kS κ) (kD κ) (kB κ) (kT κ) b0 N xs SM L w Xm → J κ 7 room_1 Qf (rec S L w SM) (memG 0 358 (kD κ) (kB κ) S Xm) (zD (kB κ)) bc1 bs1 [(0, .ref b0), (1, .ref (kB κ + 0)), (2, .ref (kB κ + 358)), (3, .ref (kB κ + 387)), (4, .int i)] 2305 []) : J κ 7 room_1 Qf (lawC_18 N xs i S L w SM rec) (memG 0 358 (kD κ) (kB κ) S Xm) (zD (kB κ)) (bc1 + 16) (bs1 + 3000) [(0, .ref b0), (1, .ref (kB κ + 0)), (2, .ref (kB κ + 358)), (3, .ref (kB κ + 387)), (4, .int i)] 1469 [] := by
  unfold lawC_18
  refine j_aload_n X 1 rfl dL_law_1469 rfl ?_
  refine j_aload_n X 0 rfl dL_law_1470 rfl ?_
  refine j_iload X 4 rfl dL_law_1471 ?_
  refine j_iconst X (1 : Int32) dL_law_1473 (by rfl) ?_
  refine j_iadd X dL_law_1474 ?_
  refine r_scr X hI dL_law_1475 ?_
  refine j_aload_n X 0 rfl dL_law_1476 rfl ?_
  refine j_iload X 4 rfl dL_law_1477 ?_
  refine j_iconst X (2 : Int32) dL_law_1479 (by rfl) ?_
  refine j_iadd X dL_law_1480 ?_
  refine r_scr X hI dL_law_1481 ?_
  refine j_aload_n X 0 rfl dL_law_1482 rfl ?_
  refine j_iload X 4 rfl dL_law_1483 ?_
  refine j_iconst X (3 : Int32) dL_law_1485 (by rfl) ?_
  refine j_iadd X dL_law_1486 ?_
  refine r_scr X hI dL_law_1487 ?_
  refine j_aload_n X 0 rfl dL_law_1488 rfl ?_
  refine j_iload X 4 rfl dL_law_1489 ?_
  refine j_iconst X (4 : Int32) dL_law_1491 (by rfl) ?_
  refine j_iadd X dL_law_1492 ?_
  refine r_scr X hI dL_law_1493 ?_
  refine j_aload_n X 0 rfl dL_law_1494 rfl ?_
  refine j_iload X 4 rfl dL_law_1495 ?_
  refine j_iconst X (5 : Int32) dL_law_1497 (by rfl) ?_
  refine j_iadd X dL_law_1498 ?_
  refine r_scr X hI dL_law_1499 ?_
  refine j_aload_n X 3 rfl dL_law_1500 rfl ?_
  refine r_callL X bc1 bs1 hI (c_L_setShares X.tr S Xm L w hI.2.1 hI.2.2.1 ((xs (i + (1 : Int32)).toNatClampNeg)) ((xs (i + (2 : Int32)).toNatClampNeg)) ((xs (i + (3 : Int32)).toNatClampNeg)) ((xs (i + (4 : Int32)).toNatClampNeg)) ((xs (i + (5 : Int32)).toNatClampNeg))) mh_L_setShares ml_L_181 st_L_setShares dL_law_1501 (rest := []) rfl rfl ⟨Nat.le_of_ble_eq_true rfl, Nat.le_of_ble_eq_true rfl⟩ ⟨by show 6 + _ ≤ _; omega, by show 36 + _ ≤ _; omega⟩ (Nat.le_of_ble_eq_true rfl) (fun v S1 X1 hI1 => ?_)
  refine j_istore X [(5, .int v), (0, .ref b0), (1, .ref (kB κ + 0)), (2, .ref (kB κ + 358)), (3, .ref (kB κ + 387)), (4, .int i)] dL_law_1504 (by decide) rfl ?_
  refine j_aload_n X 3 rfl dL_law_1506 rfl ?_
  refine j_aload_n X 1 rfl dL_law_1507 rfl ?_
  refine j_iload X 5 rfl dL_law_1508 ?_
  refine j_iconst X (1 : Int32) dL_law_1510 (by rfl) ?_
  refine j_iadd X dL_law_1511 ?_
  refine r_scr X hI1 dL_law_1512 ?_
  refine j_aload_n X 1 rfl dL_law_1513 rfl ?_
  refine j_iload X 5 rfl dL_law_1514 ?_
  refine j_iconst X (2 : Int32) dL_law_1516 (by rfl) ?_
  refine j_iadd X dL_law_1517 ?_
  refine r_scr X hI1 dL_law_1518 ?_
  refine j_aload_n X 1 rfl dL_law_1519 rfl ?_
  refine j_iload X 5 rfl dL_law_1520 ?_
  refine j_iconst X (3 : Int32) dL_law_1522 (by rfl) ?_
  refine j_iadd X dL_law_1523 ?_
  refine r_scr X hI1 dL_law_1524 ?_
  refine j_aload_n X 1 rfl dL_law_1525 rfl ?_
  refine j_iload X 5 rfl dL_law_1526 ?_
  refine j_iconst X (4 : Int32) dL_law_1528 (by rfl) ?_
  refine j_iadd X dL_law_1529 ?_
  refine r_scr X hI1 dL_law_1530 ?_
  refine j_aload_n X 1 rfl dL_law_1531 rfl ?_
  refine j_iload X 5 rfl dL_law_1532 ?_
  refine j_iconst X (5 : Int32) dL_law_1534 (by rfl) ?_
  refine j_iadd X dL_law_1535 ?_
  refine r_scr X hI1 dL_law_1536 ?_
  refine r_callM X bc1 bs1 hI1 (c_X11_setShares X.tr SM _ (zD (kB κ)) ((xs (i + (1 : Int32)).toNatClampNeg)) ((xs (i + (2 : Int32)).toNatClampNeg)) ((xs (i + (3 : Int32)).toNatClampNeg)) ((xs (i + (4 : Int32)).toNatClampNeg)) ((xs (i + (5 : Int32)).toNatClampNeg))) me_X11_setShares ml_L_184 iv_X11_setShares rfl dL_law_1537 (rest := []) rfl rfl ⟨Nat.le_of_ble_eq_true rfl, Nat.le_of_ble_eq_true rfl⟩ ⟨by show 0 + _ ≤ _; omega, by show 0 + _ ≤ _; omega⟩ (Nat.le_of_ble_eq_true rfl) (fun v2 SM1 X2 hI2 => ?_)
  refine j_istore X [(6, .int v2), (5, .int v), (0, .ref b0), (1, .ref (kB κ + 0)), (2, .ref (kB κ + 358)), (3, .ref (kB κ + 387)), (4, .int i)] dL_law_1540 (by decide) rfl ?_
  refine j_aload_n X 4 rfl dL_law_1542 rfl ?_
  refine r_callN X bc1 bs1 hI2 (c_X11_thrown X.tr SM1 _ (zD (kB κ))) me_X11_thrown ml_L_122 iv_X11_thrown rfl dL_law_1543 (rest := []) rfl rfl ⟨Nat.le_of_ble_eq_true rfl, Nat.le_of_ble_eq_true rfl⟩ ⟨by show 0 + _ ≤ _; omega, by show 0 + _ ≤ _; omega⟩ (Nat.le_of_ble_eq_true rfl) (fun v3 u3 => ?_)
  refine j_iload X 1 rfl dL_law_1546 ?_
  refine j_icmp_eq X 1553 dL_law_1548 (by decide) ?_ j_none
  refine j_iload X 1 rfl dL_law_1553 ?_
  refine j_if_ne X 1570 dL_law_1555 (by decide) ?_ ?_
  · refine j_aload_n X 5 rfl dL_law_1558 rfl ?_
    refine j_iconst X (0 : Int32) dL_law_1559 (by rfl) ?_
    refine r_out X hI2 dL_law_1560 ?_
    refine j_iload X 0 rfl dL_law_1561 ?_
    refine j_i2l X dL_law_1563 ?_
    refine j_lcmp X dL_law_1564 ?_
    refine jh_if_eq X 1570 dL_law_1565 (by decide) (fun hc9 => ?_) (fun hc9 => j_eq (if_neg (fun e9 => hc9 (lg_cmp0.mpr e9))) j_none)
    refine j_eq (if_pos (lg_cmp0.mp hc9)) ?_
    refine j_goto X 2305 dL_law_1570 (by decide) ?_
    refine j_lv [2, 3, 4, 5, 6] rfl ?_
    exact hrec _ _ _ _ _ hI2
  · refine j_goto X 2305 dL_law_1570 (by decide) ?_
    refine j_lv [2, 3, 4, 5, 6] rfl ?_
    exact hrec _ _ _ _ _ hI2
def lawC_19 (N : Nat) (xs : Nat → Int32) (i : Int32) (S : jS) (L : jLg) (w : Nat → Int64) (SM : jS) (rec : jS → jLg → (Nat → Int64) → jS → Option Int32) : Option Int32 := chk (inb (i + (1 : Int32)) N) (chk (inb (i + (2 : Int32)) N) (jbin0 (f_L_setSalt S L w (xs (i + (1 : Int32)).toNatClampNeg) (xs (i + (2 : Int32)).toNatClampNeg)) (fun v S1 => chk (inb (i + (1 : Int32)) N) (chk (inb (i + (2 : Int32)) N) (jbin0 (f_X11_setSalt SM (xs (i + (1 : Int32)).toNatClampNeg) (xs (i + (2 : Int32)).toNatClampNeg)) (fun v2 SM1 => jbin0 (f_X11_thrown SM1) (fun v3 _ => if v3 = v then (if v = 0 then (if S1.2.2 0 = v2.toInt64 then rec S1.1 S1.2.1 S1.2.2 SM1 else none) else rec S1.1 S1.2.1 S1.2.2 SM1) else none)))))))
set_option maxHeartbeats 4000000 in
set_option maxRecDepth 100000 in
theorem c_case_19 {κ : jCx} {Qf : Int32 → State → Prop} {b0 N : Nat} {xs : Nat → Int32} {S SM : jS} {L : jLg} {w : Nat → Int64} {Xm : jMem} {i : Int32} {rec : jS → jLg → (Nat → Int64) → jS → Option Int32} (X : jX κ RL code 7 (some .boolean)) (bc1 bs1 : Nat) (hI : GI (kS κ) (kD κ) (kB κ) (kT κ) b0 N xs SM L w Xm) (hrec : ∀ (S : jS) (L : jLg) (w : Nat → Int64) (SM : jS) (Xm : jMem), GI (kS κ) (kD κ) (kB κ) (kT κ) b0 N xs SM L w Xm → J κ 7 room_1 Qf (rec S L w SM) (memG 0 358 (kD κ) (kB κ) S Xm) (zD (kB κ)) bc1 bs1 [(0, .ref b0), (1, .ref (kB κ + 0)), (2, .ref (kB κ + 358)), (3, .ref (kB κ + 387)), (4, .int i)] 2305 []) : J κ 7 room_1 Qf (lawC_19 N xs i S L w SM rec) (memG 0 358 (kD κ) (kB κ) S Xm) (zD (kB κ)) (bc1 + 16) (bs1 + 3000) [(0, .ref b0), (1, .ref (kB κ + 0)), (2, .ref (kB κ + 358)), (3, .ref (kB κ + 387)), (4, .int i)] 1573 [] := by
  unfold lawC_19
  refine j_aload_n X 1 rfl dL_law_1573 rfl ?_
  refine j_aload_n X 0 rfl dL_law_1574 rfl ?_
  refine j_iload X 4 rfl dL_law_1575 ?_
  refine j_iconst X (1 : Int32) dL_law_1577 (by rfl) ?_
  refine j_iadd X dL_law_1578 ?_
  refine r_scr X hI dL_law_1579 ?_
  refine j_aload_n X 0 rfl dL_law_1580 rfl ?_
  refine j_iload X 4 rfl dL_law_1581 ?_
  refine j_iconst X (2 : Int32) dL_law_1583 (by rfl) ?_
  refine j_iadd X dL_law_1584 ?_
  refine r_scr X hI dL_law_1585 ?_
  refine j_aload_n X 3 rfl dL_law_1586 rfl ?_
  refine r_callL X bc1 bs1 hI (c_L_setSalt X.tr S Xm L w hI.2.1 hI.2.2.1 ((xs (i + (1 : Int32)).toNatClampNeg)) ((xs (i + (2 : Int32)).toNatClampNeg))) mh_L_setSalt ml_L_185 st_L_setSalt dL_law_1587 (rest := []) rfl rfl ⟨Nat.le_of_ble_eq_true rfl, Nat.le_of_ble_eq_true rfl⟩ ⟨by show 3 + _ ≤ _; omega, by show 18 + _ ≤ _; omega⟩ (Nat.le_of_ble_eq_true rfl) (fun v S1 X1 hI1 => ?_)
  refine j_istore X [(5, .int v), (0, .ref b0), (1, .ref (kB κ + 0)), (2, .ref (kB κ + 358)), (3, .ref (kB κ + 387)), (4, .int i)] dL_law_1590 (by decide) rfl ?_
  refine j_aload_n X 3 rfl dL_law_1592 rfl ?_
  refine j_aload_n X 1 rfl dL_law_1593 rfl ?_
  refine j_iload X 5 rfl dL_law_1594 ?_
  refine j_iconst X (1 : Int32) dL_law_1596 (by rfl) ?_
  refine j_iadd X dL_law_1597 ?_
  refine r_scr X hI1 dL_law_1598 ?_
  refine j_aload_n X 1 rfl dL_law_1599 rfl ?_
  refine j_iload X 5 rfl dL_law_1600 ?_
  refine j_iconst X (2 : Int32) dL_law_1602 (by rfl) ?_
  refine j_iadd X dL_law_1603 ?_
  refine r_scr X hI1 dL_law_1604 ?_
  refine r_callM X bc1 bs1 hI1 (c_X11_setSalt X.tr SM _ (zD (kB κ)) ((xs (i + (1 : Int32)).toNatClampNeg)) ((xs (i + (2 : Int32)).toNatClampNeg))) me_X11_setSalt ml_L_187 iv_X11_setSalt rfl dL_law_1605 (rest := []) rfl rfl ⟨Nat.le_of_ble_eq_true rfl, Nat.le_of_ble_eq_true rfl⟩ ⟨by show 0 + _ ≤ _; omega, by show 0 + _ ≤ _; omega⟩ (Nat.le_of_ble_eq_true rfl) (fun v2 SM1 X2 hI2 => ?_)
  refine j_istore X [(6, .int v2), (5, .int v), (0, .ref b0), (1, .ref (kB κ + 0)), (2, .ref (kB κ + 358)), (3, .ref (kB κ + 387)), (4, .int i)] dL_law_1608 (by decide) rfl ?_
  refine j_aload_n X 4 rfl dL_law_1610 rfl ?_
  refine r_callN X bc1 bs1 hI2 (c_X11_thrown X.tr SM1 _ (zD (kB κ))) me_X11_thrown ml_L_122 iv_X11_thrown rfl dL_law_1611 (rest := []) rfl rfl ⟨Nat.le_of_ble_eq_true rfl, Nat.le_of_ble_eq_true rfl⟩ ⟨by show 0 + _ ≤ _; omega, by show 0 + _ ≤ _; omega⟩ (Nat.le_of_ble_eq_true rfl) (fun v3 u3 => ?_)
  refine j_iload X 1 rfl dL_law_1614 ?_
  refine j_icmp_eq X 1621 dL_law_1616 (by decide) ?_ j_none
  refine j_iload X 1 rfl dL_law_1621 ?_
  refine j_if_ne X 1638 dL_law_1623 (by decide) ?_ ?_
  · refine j_aload_n X 5 rfl dL_law_1626 rfl ?_
    refine j_iconst X (0 : Int32) dL_law_1627 (by rfl) ?_
    refine r_out X hI2 dL_law_1628 ?_
    refine j_iload X 0 rfl dL_law_1629 ?_
    refine j_i2l X dL_law_1631 ?_
    refine j_lcmp X dL_law_1632 ?_
    refine jh_if_eq X 1638 dL_law_1633 (by decide) (fun hc9 => ?_) (fun hc9 => j_eq (if_neg (fun e9 => hc9 (lg_cmp0.mpr e9))) j_none)
    refine j_eq (if_pos (lg_cmp0.mp hc9)) ?_
    refine j_goto X 2305 dL_law_1638 (by decide) ?_
    refine j_lv [2, 3, 4, 5, 6] rfl ?_
    exact hrec _ _ _ _ _ hI2
  · refine j_goto X 2305 dL_law_1638 (by decide) ?_
    refine j_lv [2, 3, 4, 5, 6] rfl ?_
    exact hrec _ _ _ _ _ hI2
def lawC_20 (N : Nat) (xs : Nat → Int32) (i : Int32) (S : jS) (L : jLg) (w : Nat → Int64) (SM : jS) (rec : jS → jLg → (Nat → Int64) → jS → Option Int32) : Option Int32 := chk (inb (i + (1 : Int32)) N) (chk (inb (i + (2 : Int32)) N) (jbin0 (f_L_stop S L w (xs (i + (1 : Int32)).toNatClampNeg) (xs (i + (2 : Int32)).toNatClampNeg)) (fun v S1 => chk (inb (i + (1 : Int32)) N) (chk (inb (i + (2 : Int32)) N) (jbin0 (f_X11_stop SM (xs (i + (1 : Int32)).toNatClampNeg) (xs (i + (2 : Int32)).toNatClampNeg)) (fun v2 SM1 => jbin0 (f_X11_thrown SM1) (fun v3 _ => if v3 = v then (if v = 0 then (if S1.2.2 0 = v2.toInt64 then rec S1.1 S1.2.1 S1.2.2 SM1 else none) else rec S1.1 S1.2.1 S1.2.2 SM1) else none)))))))
set_option maxHeartbeats 4000000 in
set_option maxRecDepth 100000 in
theorem c_case_20 {κ : jCx} {Qf : Int32 → State → Prop} {b0 N : Nat} {xs : Nat → Int32} {S SM : jS} {L : jLg} {w : Nat → Int64} {Xm : jMem} {i : Int32} {rec : jS → jLg → (Nat → Int64) → jS → Option Int32} (X : jX κ RL code 7 (some .boolean)) (bc1 bs1 : Nat) (hI : GI (kS κ) (kD κ) (kB κ) (kT κ) b0 N xs SM L w Xm) (hrec : ∀ (S : jS) (L : jLg) (w : Nat → Int64) (SM : jS) (Xm : jMem), GI (kS κ) (kD κ) (kB κ) (kT κ) b0 N xs SM L w Xm → J κ 7 room_1 Qf (rec S L w SM) (memG 0 358 (kD κ) (kB κ) S Xm) (zD (kB κ)) bc1 bs1 [(0, .ref b0), (1, .ref (kB κ + 0)), (2, .ref (kB κ + 358)), (3, .ref (kB κ + 387)), (4, .int i)] 2305 []) : J κ 7 room_1 Qf (lawC_20 N xs i S L w SM rec) (memG 0 358 (kD κ) (kB κ) S Xm) (zD (kB κ)) (bc1 + 16) (bs1 + 3000) [(0, .ref b0), (1, .ref (kB κ + 0)), (2, .ref (kB κ + 358)), (3, .ref (kB κ + 387)), (4, .int i)] 1641 [] := by
  unfold lawC_20
  refine j_aload_n X 1 rfl dL_law_1641 rfl ?_
  refine j_aload_n X 0 rfl dL_law_1642 rfl ?_
  refine j_iload X 4 rfl dL_law_1643 ?_
  refine j_iconst X (1 : Int32) dL_law_1645 (by rfl) ?_
  refine j_iadd X dL_law_1646 ?_
  refine r_scr X hI dL_law_1647 ?_
  refine j_aload_n X 0 rfl dL_law_1648 rfl ?_
  refine j_iload X 4 rfl dL_law_1649 ?_
  refine j_iconst X (2 : Int32) dL_law_1651 (by rfl) ?_
  refine j_iadd X dL_law_1652 ?_
  refine r_scr X hI dL_law_1653 ?_
  refine j_aload_n X 3 rfl dL_law_1654 rfl ?_
  refine r_callL X bc1 bs1 hI (c_L_stop X.tr S Xm L w hI.2.1 hI.2.2.1 ((xs (i + (1 : Int32)).toNatClampNeg)) ((xs (i + (2 : Int32)).toNatClampNeg))) mh_L_stop ml_L_188 st_L_stop dL_law_1655 (rest := []) rfl rfl ⟨Nat.le_of_ble_eq_true rfl, Nat.le_of_ble_eq_true rfl⟩ ⟨by show 3 + _ ≤ _; omega, by show 18 + _ ≤ _; omega⟩ (Nat.le_of_ble_eq_true rfl) (fun v S1 X1 hI1 => ?_)
  refine j_istore X [(5, .int v), (0, .ref b0), (1, .ref (kB κ + 0)), (2, .ref (kB κ + 358)), (3, .ref (kB κ + 387)), (4, .int i)] dL_law_1658 (by decide) rfl ?_
  refine j_aload_n X 3 rfl dL_law_1660 rfl ?_
  refine j_aload_n X 1 rfl dL_law_1661 rfl ?_
  refine j_iload X 5 rfl dL_law_1662 ?_
  refine j_iconst X (1 : Int32) dL_law_1664 (by rfl) ?_
  refine j_iadd X dL_law_1665 ?_
  refine r_scr X hI1 dL_law_1666 ?_
  refine j_aload_n X 1 rfl dL_law_1667 rfl ?_
  refine j_iload X 5 rfl dL_law_1668 ?_
  refine j_iconst X (2 : Int32) dL_law_1670 (by rfl) ?_
  refine j_iadd X dL_law_1671 ?_
  refine r_scr X hI1 dL_law_1672 ?_
  refine r_callM X bc1 bs1 hI1 (c_X11_stop X.tr SM _ (zD (kB κ)) ((xs (i + (1 : Int32)).toNatClampNeg)) ((xs (i + (2 : Int32)).toNatClampNeg))) me_X11_stop ml_L_190 iv_X11_stop rfl dL_law_1673 (rest := []) rfl rfl ⟨Nat.le_of_ble_eq_true rfl, Nat.le_of_ble_eq_true rfl⟩ ⟨by show 0 + _ ≤ _; omega, by show 0 + _ ≤ _; omega⟩ (Nat.le_of_ble_eq_true rfl) (fun v2 SM1 X2 hI2 => ?_)
  refine j_istore X [(6, .int v2), (5, .int v), (0, .ref b0), (1, .ref (kB κ + 0)), (2, .ref (kB κ + 358)), (3, .ref (kB κ + 387)), (4, .int i)] dL_law_1676 (by decide) rfl ?_
  refine j_aload_n X 4 rfl dL_law_1678 rfl ?_
  refine r_callN X bc1 bs1 hI2 (c_X11_thrown X.tr SM1 _ (zD (kB κ))) me_X11_thrown ml_L_122 iv_X11_thrown rfl dL_law_1679 (rest := []) rfl rfl ⟨Nat.le_of_ble_eq_true rfl, Nat.le_of_ble_eq_true rfl⟩ ⟨by show 0 + _ ≤ _; omega, by show 0 + _ ≤ _; omega⟩ (Nat.le_of_ble_eq_true rfl) (fun v3 u3 => ?_)
  refine j_iload X 1 rfl dL_law_1682 ?_
  refine j_icmp_eq X 1689 dL_law_1684 (by decide) ?_ j_none
  refine j_iload X 1 rfl dL_law_1689 ?_
  refine j_if_ne X 1706 dL_law_1691 (by decide) ?_ ?_
  · refine j_aload_n X 5 rfl dL_law_1694 rfl ?_
    refine j_iconst X (0 : Int32) dL_law_1695 (by rfl) ?_
    refine r_out X hI2 dL_law_1696 ?_
    refine j_iload X 0 rfl dL_law_1697 ?_
    refine j_i2l X dL_law_1699 ?_
    refine j_lcmp X dL_law_1700 ?_
    refine jh_if_eq X 1706 dL_law_1701 (by decide) (fun hc9 => ?_) (fun hc9 => j_eq (if_neg (fun e9 => hc9 (lg_cmp0.mpr e9))) j_none)
    refine j_eq (if_pos (lg_cmp0.mp hc9)) ?_
    refine j_goto X 2305 dL_law_1706 (by decide) ?_
    refine j_lv [2, 3, 4, 5, 6] rfl ?_
    exact hrec _ _ _ _ _ hI2
  · refine j_goto X 2305 dL_law_1706 (by decide) ?_
    refine j_lv [2, 3, 4, 5, 6] rfl ?_
    exact hrec _ _ _ _ _ hI2
def lawC_21 (N : Nat) (xs : Nat → Int32) (i : Int32) (S : jS) (L : jLg) (w : Nat → Int64) (SM : jS) (rec : jS → jLg → (Nat → Int64) → jS → Option Int32) : Option Int32 := chk (inb (i + (1 : Int32)) N) (jbin0 (f_L_beginAnew S L w (xs (i + (1 : Int32)).toNatClampNeg)) (fun v S1 => chk (inb (i + (1 : Int32)) N) (jbin0 (f_X11_beginAnew SM (xs (i + (1 : Int32)).toNatClampNeg)) (fun v2 SM1 => jbin0 (f_X11_thrown SM1) (fun v3 _ => if v3 = v then (if v = 0 then (if S1.2.2 0 = v2.toInt64 then rec S1.1 S1.2.1 S1.2.2 SM1 else none) else rec S1.1 S1.2.1 S1.2.2 SM1) else none)))))
set_option maxHeartbeats 4000000 in
set_option maxRecDepth 100000 in
theorem c_case_21 {κ : jCx} {Qf : Int32 → State → Prop} {b0 N : Nat} {xs : Nat → Int32} {S SM : jS} {L : jLg} {w : Nat → Int64} {Xm : jMem} {i : Int32} {rec : jS → jLg → (Nat → Int64) → jS → Option Int32} (X : jX κ RL code 7 (some .boolean)) (bc1 bs1 : Nat) (hI : GI (kS κ) (kD κ) (kB κ) (kT κ) b0 N xs SM L w Xm) (hrec : ∀ (S : jS) (L : jLg) (w : Nat → Int64) (SM : jS) (Xm : jMem), GI (kS κ) (kD κ) (kB κ) (kT κ) b0 N xs SM L w Xm → J κ 7 room_1 Qf (rec S L w SM) (memG 0 358 (kD κ) (kB κ) S Xm) (zD (kB κ)) bc1 bs1 [(0, .ref b0), (1, .ref (kB κ + 0)), (2, .ref (kB κ + 358)), (3, .ref (kB κ + 387)), (4, .int i)] 2305 []) : J κ 7 room_1 Qf (lawC_21 N xs i S L w SM rec) (memG 0 358 (kD κ) (kB κ) S Xm) (zD (kB κ)) (bc1 + 16) (bs1 + 3000) [(0, .ref b0), (1, .ref (kB κ + 0)), (2, .ref (kB κ + 358)), (3, .ref (kB κ + 387)), (4, .int i)] 1709 [] := by
  unfold lawC_21
  refine j_aload_n X 1 rfl dL_law_1709 rfl ?_
  refine j_aload_n X 0 rfl dL_law_1710 rfl ?_
  refine j_iload X 4 rfl dL_law_1711 ?_
  refine j_iconst X (1 : Int32) dL_law_1713 (by rfl) ?_
  refine j_iadd X dL_law_1714 ?_
  refine r_scr X hI dL_law_1715 ?_
  refine j_aload_n X 3 rfl dL_law_1716 rfl ?_
  refine r_callL X bc1 bs1 hI (c_L_beginAnew X.tr S Xm L w hI.2.1 hI.2.2.1 ((xs (i + (1 : Int32)).toNatClampNeg))) mh_L_beginAnew ml_L_191 st_L_beginAnew dL_law_1717 (rest := []) rfl rfl ⟨Nat.le_of_ble_eq_true rfl, Nat.le_of_ble_eq_true rfl⟩ ⟨by show 5 + _ ≤ _; omega, by show 623 + _ ≤ _; omega⟩ (Nat.le_of_ble_eq_true rfl) (fun v S1 X1 hI1 => ?_)
  refine j_istore X [(5, .int v), (0, .ref b0), (1, .ref (kB κ + 0)), (2, .ref (kB κ + 358)), (3, .ref (kB κ + 387)), (4, .int i)] dL_law_1720 (by decide) rfl ?_
  refine j_aload_n X 3 rfl dL_law_1722 rfl ?_
  refine j_aload_n X 1 rfl dL_law_1723 rfl ?_
  refine j_iload X 5 rfl dL_law_1724 ?_
  refine j_iconst X (1 : Int32) dL_law_1726 (by rfl) ?_
  refine j_iadd X dL_law_1727 ?_
  refine r_scr X hI1 dL_law_1728 ?_
  refine r_callM X bc1 bs1 hI1 (c_X11_beginAnew X.tr SM _ (zD (kB κ)) ((xs (i + (1 : Int32)).toNatClampNeg))) me_X11_beginAnew ml_L_193 iv_X11_beginAnew rfl dL_law_1729 (rest := []) rfl rfl ⟨Nat.le_of_ble_eq_true rfl, Nat.le_of_ble_eq_true rfl⟩ ⟨by show 0 + _ ≤ _; omega, by show 0 + _ ≤ _; omega⟩ (Nat.le_of_ble_eq_true rfl) (fun v2 SM1 X2 hI2 => ?_)
  refine j_istore X [(6, .int v2), (5, .int v), (0, .ref b0), (1, .ref (kB κ + 0)), (2, .ref (kB κ + 358)), (3, .ref (kB κ + 387)), (4, .int i)] dL_law_1732 (by decide) rfl ?_
  refine j_aload_n X 4 rfl dL_law_1734 rfl ?_
  refine r_callN X bc1 bs1 hI2 (c_X11_thrown X.tr SM1 _ (zD (kB κ))) me_X11_thrown ml_L_122 iv_X11_thrown rfl dL_law_1735 (rest := []) rfl rfl ⟨Nat.le_of_ble_eq_true rfl, Nat.le_of_ble_eq_true rfl⟩ ⟨by show 0 + _ ≤ _; omega, by show 0 + _ ≤ _; omega⟩ (Nat.le_of_ble_eq_true rfl) (fun v3 u3 => ?_)
  refine j_iload X 1 rfl dL_law_1738 ?_
  refine j_icmp_eq X 1745 dL_law_1740 (by decide) ?_ j_none
  refine j_iload X 1 rfl dL_law_1745 ?_
  refine j_if_ne X 1762 dL_law_1747 (by decide) ?_ ?_
  · refine j_aload_n X 5 rfl dL_law_1750 rfl ?_
    refine j_iconst X (0 : Int32) dL_law_1751 (by rfl) ?_
    refine r_out X hI2 dL_law_1752 ?_
    refine j_iload X 0 rfl dL_law_1753 ?_
    refine j_i2l X dL_law_1755 ?_
    refine j_lcmp X dL_law_1756 ?_
    refine jh_if_eq X 1762 dL_law_1757 (by decide) (fun hc9 => ?_) (fun hc9 => j_eq (if_neg (fun e9 => hc9 (lg_cmp0.mpr e9))) j_none)
    refine j_eq (if_pos (lg_cmp0.mp hc9)) ?_
    refine j_goto X 2305 dL_law_1762 (by decide) ?_
    refine j_lv [2, 3, 4, 5, 6] rfl ?_
    exact hrec _ _ _ _ _ hI2
  · refine j_goto X 2305 dL_law_1762 (by decide) ?_
    refine j_lv [2, 3, 4, 5, 6] rfl ?_
    exact hrec _ _ _ _ _ hI2
def lawC_22 (N : Nat) (xs : Nat → Int32) (i : Int32) (S : jS) (L : jLg) (w : Nat → Int64) (SM : jS) (rec : jS → jLg → (Nat → Int64) → jS → Option Int32) : Option Int32 := chk (inb (i + (1 : Int32)) N) (chk (inb (i + (2 : Int32)) N) (jbin0 (f_L_arm S L w (xs (i + (1 : Int32)).toNatClampNeg) (xs (i + (2 : Int32)).toNatClampNeg)) (fun v S1 => chk (inb (i + (1 : Int32)) N) (chk (inb (i + (2 : Int32)) N) (jbin0 (f_X11_arm SM (xs (i + (1 : Int32)).toNatClampNeg) (xs (i + (2 : Int32)).toNatClampNeg)) (fun v2 SM1 => jbin0 (f_X11_thrown SM1) (fun v3 _ => if v3 = v then (if v = 0 then (if S1.2.2 0 = v2.toInt64 then rec S1.1 S1.2.1 S1.2.2 SM1 else none) else rec S1.1 S1.2.1 S1.2.2 SM1) else none)))))))
set_option maxHeartbeats 4000000 in
set_option maxRecDepth 100000 in
theorem c_case_22 {κ : jCx} {Qf : Int32 → State → Prop} {b0 N : Nat} {xs : Nat → Int32} {S SM : jS} {L : jLg} {w : Nat → Int64} {Xm : jMem} {i : Int32} {rec : jS → jLg → (Nat → Int64) → jS → Option Int32} (X : jX κ RL code 7 (some .boolean)) (bc1 bs1 : Nat) (hI : GI (kS κ) (kD κ) (kB κ) (kT κ) b0 N xs SM L w Xm) (hrec : ∀ (S : jS) (L : jLg) (w : Nat → Int64) (SM : jS) (Xm : jMem), GI (kS κ) (kD κ) (kB κ) (kT κ) b0 N xs SM L w Xm → J κ 7 room_1 Qf (rec S L w SM) (memG 0 358 (kD κ) (kB κ) S Xm) (zD (kB κ)) bc1 bs1 [(0, .ref b0), (1, .ref (kB κ + 0)), (2, .ref (kB κ + 358)), (3, .ref (kB κ + 387)), (4, .int i)] 2305 []) : J κ 7 room_1 Qf (lawC_22 N xs i S L w SM rec) (memG 0 358 (kD κ) (kB κ) S Xm) (zD (kB κ)) (bc1 + 16) (bs1 + 3000) [(0, .ref b0), (1, .ref (kB κ + 0)), (2, .ref (kB κ + 358)), (3, .ref (kB κ + 387)), (4, .int i)] 1765 [] := by
  unfold lawC_22
  refine j_aload_n X 1 rfl dL_law_1765 rfl ?_
  refine j_aload_n X 0 rfl dL_law_1766 rfl ?_
  refine j_iload X 4 rfl dL_law_1767 ?_
  refine j_iconst X (1 : Int32) dL_law_1769 (by rfl) ?_
  refine j_iadd X dL_law_1770 ?_
  refine r_scr X hI dL_law_1771 ?_
  refine j_aload_n X 0 rfl dL_law_1772 rfl ?_
  refine j_iload X 4 rfl dL_law_1773 ?_
  refine j_iconst X (2 : Int32) dL_law_1775 (by rfl) ?_
  refine j_iadd X dL_law_1776 ?_
  refine r_scr X hI dL_law_1777 ?_
  refine j_aload_n X 3 rfl dL_law_1778 rfl ?_
  refine r_callL X bc1 bs1 hI (c_L_arm X.tr S Xm L w hI.2.1 hI.2.2.1 ((xs (i + (1 : Int32)).toNatClampNeg)) ((xs (i + (2 : Int32)).toNatClampNeg))) mh_L_arm ml_L_194 st_L_arm dL_law_1779 (rest := []) rfl rfl ⟨Nat.le_of_ble_eq_true rfl, Nat.le_of_ble_eq_true rfl⟩ ⟨by show 2 + _ ≤ _; omega, by show 12 + _ ≤ _; omega⟩ (Nat.le_of_ble_eq_true rfl) (fun v S1 X1 hI1 => ?_)
  refine j_istore X [(5, .int v), (0, .ref b0), (1, .ref (kB κ + 0)), (2, .ref (kB κ + 358)), (3, .ref (kB κ + 387)), (4, .int i)] dL_law_1782 (by decide) rfl ?_
  refine j_aload_n X 3 rfl dL_law_1784 rfl ?_
  refine j_aload_n X 1 rfl dL_law_1785 rfl ?_
  refine j_iload X 5 rfl dL_law_1786 ?_
  refine j_iconst X (1 : Int32) dL_law_1788 (by rfl) ?_
  refine j_iadd X dL_law_1789 ?_
  refine r_scr X hI1 dL_law_1790 ?_
  refine j_aload_n X 1 rfl dL_law_1791 rfl ?_
  refine j_iload X 5 rfl dL_law_1792 ?_
  refine j_iconst X (2 : Int32) dL_law_1794 (by rfl) ?_
  refine j_iadd X dL_law_1795 ?_
  refine r_scr X hI1 dL_law_1796 ?_
  refine r_callM X bc1 bs1 hI1 (c_X11_arm X.tr SM _ (zD (kB κ)) ((xs (i + (1 : Int32)).toNatClampNeg)) ((xs (i + (2 : Int32)).toNatClampNeg))) me_X11_arm ml_L_196 iv_X11_arm rfl dL_law_1797 (rest := []) rfl rfl ⟨Nat.le_of_ble_eq_true rfl, Nat.le_of_ble_eq_true rfl⟩ ⟨by show 0 + _ ≤ _; omega, by show 0 + _ ≤ _; omega⟩ (Nat.le_of_ble_eq_true rfl) (fun v2 SM1 X2 hI2 => ?_)
  refine j_istore X [(6, .int v2), (5, .int v), (0, .ref b0), (1, .ref (kB κ + 0)), (2, .ref (kB κ + 358)), (3, .ref (kB κ + 387)), (4, .int i)] dL_law_1800 (by decide) rfl ?_
  refine j_aload_n X 4 rfl dL_law_1802 rfl ?_
  refine r_callN X bc1 bs1 hI2 (c_X11_thrown X.tr SM1 _ (zD (kB κ))) me_X11_thrown ml_L_122 iv_X11_thrown rfl dL_law_1803 (rest := []) rfl rfl ⟨Nat.le_of_ble_eq_true rfl, Nat.le_of_ble_eq_true rfl⟩ ⟨by show 0 + _ ≤ _; omega, by show 0 + _ ≤ _; omega⟩ (Nat.le_of_ble_eq_true rfl) (fun v3 u3 => ?_)
  refine j_iload X 1 rfl dL_law_1806 ?_
  refine j_icmp_eq X 1813 dL_law_1808 (by decide) ?_ j_none
  refine j_iload X 1 rfl dL_law_1813 ?_
  refine j_if_ne X 1830 dL_law_1815 (by decide) ?_ ?_
  · refine j_aload_n X 5 rfl dL_law_1818 rfl ?_
    refine j_iconst X (0 : Int32) dL_law_1819 (by rfl) ?_
    refine r_out X hI2 dL_law_1820 ?_
    refine j_iload X 0 rfl dL_law_1821 ?_
    refine j_i2l X dL_law_1823 ?_
    refine j_lcmp X dL_law_1824 ?_
    refine jh_if_eq X 1830 dL_law_1825 (by decide) (fun hc9 => ?_) (fun hc9 => j_eq (if_neg (fun e9 => hc9 (lg_cmp0.mpr e9))) j_none)
    refine j_eq (if_pos (lg_cmp0.mp hc9)) ?_
    refine j_goto X 2305 dL_law_1830 (by decide) ?_
    refine j_lv [2, 3, 4, 5, 6] rfl ?_
    exact hrec _ _ _ _ _ hI2
  · refine j_goto X 2305 dL_law_1830 (by decide) ?_
    refine j_lv [2, 3, 4, 5, 6] rfl ?_
    exact hrec _ _ _ _ _ hI2
def lawC_23 (N : Nat) (xs : Nat → Int32) (i : Int32) (S : jS) (L : jLg) (w : Nat → Int64) (SM : jS) (rec : jS → jLg → (Nat → Int64) → jS → Option Int32) : Option Int32 := chk (inb (i + (1 : Int32)) N) (chk (inb (i + (2 : Int32)) N) (jbin0 (f_L_kept S L w (xs (i + (1 : Int32)).toNatClampNeg) (xs (i + (2 : Int32)).toNatClampNeg)) (fun v S1 => chk (inb (i + (1 : Int32)) N) (chk (inb (i + (2 : Int32)) N) (jbin0 (f_X11_kept SM (xs (i + (1 : Int32)).toNatClampNeg) (xs (i + (2 : Int32)).toNatClampNeg)) (fun v2 SM1 => jbin0 (f_X11_thrown SM1) (fun v3 _ => if v3 = v then (if v = 0 then (if S1.2.2 0 = v2.toInt64 then rec S1.1 S1.2.1 S1.2.2 SM1 else none) else rec S1.1 S1.2.1 S1.2.2 SM1) else none)))))))
set_option maxHeartbeats 4000000 in
set_option maxRecDepth 100000 in
theorem c_case_23 {κ : jCx} {Qf : Int32 → State → Prop} {b0 N : Nat} {xs : Nat → Int32} {S SM : jS} {L : jLg} {w : Nat → Int64} {Xm : jMem} {i : Int32} {rec : jS → jLg → (Nat → Int64) → jS → Option Int32} (X : jX κ RL code 7 (some .boolean)) (bc1 bs1 : Nat) (hI : GI (kS κ) (kD κ) (kB κ) (kT κ) b0 N xs SM L w Xm) (hrec : ∀ (S : jS) (L : jLg) (w : Nat → Int64) (SM : jS) (Xm : jMem), GI (kS κ) (kD κ) (kB κ) (kT κ) b0 N xs SM L w Xm → J κ 7 room_1 Qf (rec S L w SM) (memG 0 358 (kD κ) (kB κ) S Xm) (zD (kB κ)) bc1 bs1 [(0, .ref b0), (1, .ref (kB κ + 0)), (2, .ref (kB κ + 358)), (3, .ref (kB κ + 387)), (4, .int i)] 2305 []) : J κ 7 room_1 Qf (lawC_23 N xs i S L w SM rec) (memG 0 358 (kD κ) (kB κ) S Xm) (zD (kB κ)) (bc1 + 16) (bs1 + 3000) [(0, .ref b0), (1, .ref (kB κ + 0)), (2, .ref (kB κ + 358)), (3, .ref (kB κ + 387)), (4, .int i)] 1833 [] := by
  unfold lawC_23
  refine j_aload_n X 1 rfl dL_law_1833 rfl ?_
  refine j_aload_n X 0 rfl dL_law_1834 rfl ?_
  refine j_iload X 4 rfl dL_law_1835 ?_
  refine j_iconst X (1 : Int32) dL_law_1837 (by rfl) ?_
  refine j_iadd X dL_law_1838 ?_
  refine r_scr X hI dL_law_1839 ?_
  refine j_aload_n X 0 rfl dL_law_1840 rfl ?_
  refine j_iload X 4 rfl dL_law_1841 ?_
  refine j_iconst X (2 : Int32) dL_law_1843 (by rfl) ?_
  refine j_iadd X dL_law_1844 ?_
  refine r_scr X hI dL_law_1845 ?_
  refine j_aload_n X 3 rfl dL_law_1846 rfl ?_
  refine r_callL X bc1 bs1 hI (c_L_kept X.tr S Xm L w hI.2.1 hI.2.2.1 ((xs (i + (1 : Int32)).toNatClampNeg)) ((xs (i + (2 : Int32)).toNatClampNeg))) mh_L_kept ml_L_197 st_L_kept dL_law_1847 (rest := []) rfl rfl ⟨Nat.le_of_ble_eq_true rfl, Nat.le_of_ble_eq_true rfl⟩ ⟨by show 2 + _ ≤ _; omega, by show 12 + _ ≤ _; omega⟩ (Nat.le_of_ble_eq_true rfl) (fun v S1 X1 hI1 => ?_)
  refine j_istore X [(5, .int v), (0, .ref b0), (1, .ref (kB κ + 0)), (2, .ref (kB κ + 358)), (3, .ref (kB κ + 387)), (4, .int i)] dL_law_1850 (by decide) rfl ?_
  refine j_aload_n X 3 rfl dL_law_1852 rfl ?_
  refine j_aload_n X 1 rfl dL_law_1853 rfl ?_
  refine j_iload X 5 rfl dL_law_1854 ?_
  refine j_iconst X (1 : Int32) dL_law_1856 (by rfl) ?_
  refine j_iadd X dL_law_1857 ?_
  refine r_scr X hI1 dL_law_1858 ?_
  refine j_aload_n X 1 rfl dL_law_1859 rfl ?_
  refine j_iload X 5 rfl dL_law_1860 ?_
  refine j_iconst X (2 : Int32) dL_law_1862 (by rfl) ?_
  refine j_iadd X dL_law_1863 ?_
  refine r_scr X hI1 dL_law_1864 ?_
  refine r_callM X bc1 bs1 hI1 (c_X11_kept X.tr SM _ (zD (kB κ)) ((xs (i + (1 : Int32)).toNatClampNeg)) ((xs (i + (2 : Int32)).toNatClampNeg))) me_X11_kept ml_L_199 iv_X11_kept rfl dL_law_1865 (rest := []) rfl rfl ⟨Nat.le_of_ble_eq_true rfl, Nat.le_of_ble_eq_true rfl⟩ ⟨by show 0 + _ ≤ _; omega, by show 0 + _ ≤ _; omega⟩ (Nat.le_of_ble_eq_true rfl) (fun v2 SM1 X2 hI2 => ?_)
  refine j_istore X [(6, .int v2), (5, .int v), (0, .ref b0), (1, .ref (kB κ + 0)), (2, .ref (kB κ + 358)), (3, .ref (kB κ + 387)), (4, .int i)] dL_law_1868 (by decide) rfl ?_
  refine j_aload_n X 4 rfl dL_law_1870 rfl ?_
  refine r_callN X bc1 bs1 hI2 (c_X11_thrown X.tr SM1 _ (zD (kB κ))) me_X11_thrown ml_L_122 iv_X11_thrown rfl dL_law_1871 (rest := []) rfl rfl ⟨Nat.le_of_ble_eq_true rfl, Nat.le_of_ble_eq_true rfl⟩ ⟨by show 0 + _ ≤ _; omega, by show 0 + _ ≤ _; omega⟩ (Nat.le_of_ble_eq_true rfl) (fun v3 u3 => ?_)
  refine j_iload X 1 rfl dL_law_1874 ?_
  refine j_icmp_eq X 1881 dL_law_1876 (by decide) ?_ j_none
  refine j_iload X 1 rfl dL_law_1881 ?_
  refine j_if_ne X 1898 dL_law_1883 (by decide) ?_ ?_
  · refine j_aload_n X 5 rfl dL_law_1886 rfl ?_
    refine j_iconst X (0 : Int32) dL_law_1887 (by rfl) ?_
    refine r_out X hI2 dL_law_1888 ?_
    refine j_iload X 0 rfl dL_law_1889 ?_
    refine j_i2l X dL_law_1891 ?_
    refine j_lcmp X dL_law_1892 ?_
    refine jh_if_eq X 1898 dL_law_1893 (by decide) (fun hc9 => ?_) (fun hc9 => j_eq (if_neg (fun e9 => hc9 (lg_cmp0.mpr e9))) j_none)
    refine j_eq (if_pos (lg_cmp0.mp hc9)) ?_
    refine j_goto X 2305 dL_law_1898 (by decide) ?_
    refine j_lv [2, 3, 4, 5, 6] rfl ?_
    exact hrec _ _ _ _ _ hI2
  · refine j_goto X 2305 dL_law_1898 (by decide) ?_
    refine j_lv [2, 3, 4, 5, 6] rfl ?_
    exact hrec _ _ _ _ _ hI2
def lawC_24 (N : Nat) (xs : Nat → Int32) (i : Int32) (S : jS) (L : jLg) (w : Nat → Int64) (SM : jS) (rec : jS → jLg → (Nat → Int64) → jS → Option Int32) : Option Int32 := chk (inb (i + (1 : Int32)) N) (chk (inb (i + (2 : Int32)) N) (jbin0 (f_L_hold S L w (xs (i + (1 : Int32)).toNatClampNeg) (xs (i + (2 : Int32)).toNatClampNeg)) (fun v S1 => chk (inb (i + (1 : Int32)) N) (chk (inb (i + (2 : Int32)) N) (jbin0 (f_X11_hold SM (xs (i + (1 : Int32)).toNatClampNeg) (xs (i + (2 : Int32)).toNatClampNeg)) (fun v2 SM1 => jbin0 (f_X11_thrown SM1) (fun v3 _ => if v3 = v then (if v = 0 then (if S1.2.2 0 = v2.toInt64 then rec S1.1 S1.2.1 S1.2.2 SM1 else none) else rec S1.1 S1.2.1 S1.2.2 SM1) else none)))))))
set_option maxHeartbeats 4000000 in
set_option maxRecDepth 100000 in
theorem c_case_24 {κ : jCx} {Qf : Int32 → State → Prop} {b0 N : Nat} {xs : Nat → Int32} {S SM : jS} {L : jLg} {w : Nat → Int64} {Xm : jMem} {i : Int32} {rec : jS → jLg → (Nat → Int64) → jS → Option Int32} (X : jX κ RL code 7 (some .boolean)) (bc1 bs1 : Nat) (hI : GI (kS κ) (kD κ) (kB κ) (kT κ) b0 N xs SM L w Xm) (hrec : ∀ (S : jS) (L : jLg) (w : Nat → Int64) (SM : jS) (Xm : jMem), GI (kS κ) (kD κ) (kB κ) (kT κ) b0 N xs SM L w Xm → J κ 7 room_1 Qf (rec S L w SM) (memG 0 358 (kD κ) (kB κ) S Xm) (zD (kB κ)) bc1 bs1 [(0, .ref b0), (1, .ref (kB κ + 0)), (2, .ref (kB κ + 358)), (3, .ref (kB κ + 387)), (4, .int i)] 2305 []) : J κ 7 room_1 Qf (lawC_24 N xs i S L w SM rec) (memG 0 358 (kD κ) (kB κ) S Xm) (zD (kB κ)) (bc1 + 16) (bs1 + 3000) [(0, .ref b0), (1, .ref (kB κ + 0)), (2, .ref (kB κ + 358)), (3, .ref (kB κ + 387)), (4, .int i)] 1901 [] := by
  unfold lawC_24
  refine j_aload_n X 1 rfl dL_law_1901 rfl ?_
  refine j_aload_n X 0 rfl dL_law_1902 rfl ?_
  refine j_iload X 4 rfl dL_law_1903 ?_
  refine j_iconst X (1 : Int32) dL_law_1905 (by rfl) ?_
  refine j_iadd X dL_law_1906 ?_
  refine r_scr X hI dL_law_1907 ?_
  refine j_aload_n X 0 rfl dL_law_1908 rfl ?_
  refine j_iload X 4 rfl dL_law_1909 ?_
  refine j_iconst X (2 : Int32) dL_law_1911 (by rfl) ?_
  refine j_iadd X dL_law_1912 ?_
  refine r_scr X hI dL_law_1913 ?_
  refine j_aload_n X 3 rfl dL_law_1914 rfl ?_
  refine r_callL X bc1 bs1 hI (c_L_hold X.tr S Xm L w hI.2.1 hI.2.2.1 ((xs (i + (1 : Int32)).toNatClampNeg)) ((xs (i + (2 : Int32)).toNatClampNeg))) mh_L_hold ml_L_200 st_L_hold dL_law_1915 (rest := []) rfl rfl ⟨Nat.le_of_ble_eq_true rfl, Nat.le_of_ble_eq_true rfl⟩ ⟨by show 6 + _ ≤ _; omega, by show 629 + _ ≤ _; omega⟩ (Nat.le_of_ble_eq_true rfl) (fun v S1 X1 hI1 => ?_)
  refine j_istore X [(5, .int v), (0, .ref b0), (1, .ref (kB κ + 0)), (2, .ref (kB κ + 358)), (3, .ref (kB κ + 387)), (4, .int i)] dL_law_1918 (by decide) rfl ?_
  refine j_aload_n X 3 rfl dL_law_1920 rfl ?_
  refine j_aload_n X 1 rfl dL_law_1921 rfl ?_
  refine j_iload X 5 rfl dL_law_1922 ?_
  refine j_iconst X (1 : Int32) dL_law_1924 (by rfl) ?_
  refine j_iadd X dL_law_1925 ?_
  refine r_scr X hI1 dL_law_1926 ?_
  refine j_aload_n X 1 rfl dL_law_1927 rfl ?_
  refine j_iload X 5 rfl dL_law_1928 ?_
  refine j_iconst X (2 : Int32) dL_law_1930 (by rfl) ?_
  refine j_iadd X dL_law_1931 ?_
  refine r_scr X hI1 dL_law_1932 ?_
  refine r_callM X bc1 bs1 hI1 (c_X11_hold X.tr SM _ (zD (kB κ)) ((xs (i + (1 : Int32)).toNatClampNeg)) ((xs (i + (2 : Int32)).toNatClampNeg))) me_X11_hold ml_L_202 iv_X11_hold rfl dL_law_1933 (rest := []) rfl rfl ⟨Nat.le_of_ble_eq_true rfl, Nat.le_of_ble_eq_true rfl⟩ ⟨by show 0 + _ ≤ _; omega, by show 0 + _ ≤ _; omega⟩ (Nat.le_of_ble_eq_true rfl) (fun v2 SM1 X2 hI2 => ?_)
  refine j_istore X [(6, .int v2), (5, .int v), (0, .ref b0), (1, .ref (kB κ + 0)), (2, .ref (kB κ + 358)), (3, .ref (kB κ + 387)), (4, .int i)] dL_law_1936 (by decide) rfl ?_
  refine j_aload_n X 4 rfl dL_law_1938 rfl ?_
  refine r_callN X bc1 bs1 hI2 (c_X11_thrown X.tr SM1 _ (zD (kB κ))) me_X11_thrown ml_L_122 iv_X11_thrown rfl dL_law_1939 (rest := []) rfl rfl ⟨Nat.le_of_ble_eq_true rfl, Nat.le_of_ble_eq_true rfl⟩ ⟨by show 0 + _ ≤ _; omega, by show 0 + _ ≤ _; omega⟩ (Nat.le_of_ble_eq_true rfl) (fun v3 u3 => ?_)
  refine j_iload X 1 rfl dL_law_1942 ?_
  refine j_icmp_eq X 1949 dL_law_1944 (by decide) ?_ j_none
  refine j_iload X 1 rfl dL_law_1949 ?_
  refine j_if_ne X 1966 dL_law_1951 (by decide) ?_ ?_
  · refine j_aload_n X 5 rfl dL_law_1954 rfl ?_
    refine j_iconst X (0 : Int32) dL_law_1955 (by rfl) ?_
    refine r_out X hI2 dL_law_1956 ?_
    refine j_iload X 0 rfl dL_law_1957 ?_
    refine j_i2l X dL_law_1959 ?_
    refine j_lcmp X dL_law_1960 ?_
    refine jh_if_eq X 1966 dL_law_1961 (by decide) (fun hc9 => ?_) (fun hc9 => j_eq (if_neg (fun e9 => hc9 (lg_cmp0.mpr e9))) j_none)
    refine j_eq (if_pos (lg_cmp0.mp hc9)) ?_
    refine j_goto X 2305 dL_law_1966 (by decide) ?_
    refine j_lv [2, 3, 4, 5, 6] rfl ?_
    exact hrec _ _ _ _ _ hI2
  · refine j_goto X 2305 dL_law_1966 (by decide) ?_
    refine j_lv [2, 3, 4, 5, 6] rfl ?_
    exact hrec _ _ _ _ _ hI2
def lawC_25 (N : Nat) (xs : Nat → Int32) (i : Int32) (S : jS) (L : jLg) (w : Nat → Int64) (SM : jS) (rec : jS → jLg → (Nat → Int64) → jS → Option Int32) : Option Int32 := chk (inb (i + (1 : Int32)) N) (chk (inb (i + (2 : Int32)) N) (jbin0 (f_L_release S L w (xs (i + (1 : Int32)).toNatClampNeg) (xs (i + (2 : Int32)).toNatClampNeg)) (fun v S1 => chk (inb (i + (1 : Int32)) N) (chk (inb (i + (2 : Int32)) N) (jbin0 (f_X11_release SM (xs (i + (1 : Int32)).toNatClampNeg) (xs (i + (2 : Int32)).toNatClampNeg)) (fun v2 SM1 => jbin0 (f_X11_thrown SM1) (fun v3 _ => if v3 = v then (if v = 0 then (if S1.2.2 0 = v2.toInt64 then rec S1.1 S1.2.1 S1.2.2 SM1 else none) else rec S1.1 S1.2.1 S1.2.2 SM1) else none)))))))
set_option maxHeartbeats 4000000 in
set_option maxRecDepth 100000 in
theorem c_case_25 {κ : jCx} {Qf : Int32 → State → Prop} {b0 N : Nat} {xs : Nat → Int32} {S SM : jS} {L : jLg} {w : Nat → Int64} {Xm : jMem} {i : Int32} {rec : jS → jLg → (Nat → Int64) → jS → Option Int32} (X : jX κ RL code 7 (some .boolean)) (bc1 bs1 : Nat) (hI : GI (kS κ) (kD κ) (kB κ) (kT κ) b0 N xs SM L w Xm) (hrec : ∀ (S : jS) (L : jLg) (w : Nat → Int64) (SM : jS) (Xm : jMem), GI (kS κ) (kD κ) (kB κ) (kT κ) b0 N xs SM L w Xm → J κ 7 room_1 Qf (rec S L w SM) (memG 0 358 (kD κ) (kB κ) S Xm) (zD (kB κ)) bc1 bs1 [(0, .ref b0), (1, .ref (kB κ + 0)), (2, .ref (kB κ + 358)), (3, .ref (kB κ + 387)), (4, .int i)] 2305 []) : J κ 7 room_1 Qf (lawC_25 N xs i S L w SM rec) (memG 0 358 (kD κ) (kB κ) S Xm) (zD (kB κ)) (bc1 + 16) (bs1 + 3000) [(0, .ref b0), (1, .ref (kB κ + 0)), (2, .ref (kB κ + 358)), (3, .ref (kB κ + 387)), (4, .int i)] 1969 [] := by
  unfold lawC_25
  refine j_aload_n X 1 rfl dL_law_1969 rfl ?_
  refine j_aload_n X 0 rfl dL_law_1970 rfl ?_
  refine j_iload X 4 rfl dL_law_1971 ?_
  refine j_iconst X (1 : Int32) dL_law_1973 (by rfl) ?_
  refine j_iadd X dL_law_1974 ?_
  refine r_scr X hI dL_law_1975 ?_
  refine j_aload_n X 0 rfl dL_law_1976 rfl ?_
  refine j_iload X 4 rfl dL_law_1977 ?_
  refine j_iconst X (2 : Int32) dL_law_1979 (by rfl) ?_
  refine j_iadd X dL_law_1980 ?_
  refine r_scr X hI dL_law_1981 ?_
  refine j_aload_n X 3 rfl dL_law_1982 rfl ?_
  refine r_callL X bc1 bs1 hI (c_L_release X.tr S Xm L w hI.2.1 hI.2.2.1 ((xs (i + (1 : Int32)).toNatClampNeg)) ((xs (i + (2 : Int32)).toNatClampNeg))) mh_L_release ml_L_203 st_L_release dL_law_1983 (rest := []) rfl rfl ⟨Nat.le_of_ble_eq_true rfl, Nat.le_of_ble_eq_true rfl⟩ ⟨by show 6 + _ ≤ _; omega, by show 629 + _ ≤ _; omega⟩ (Nat.le_of_ble_eq_true rfl) (fun v S1 X1 hI1 => ?_)
  refine j_istore X [(5, .int v), (0, .ref b0), (1, .ref (kB κ + 0)), (2, .ref (kB κ + 358)), (3, .ref (kB κ + 387)), (4, .int i)] dL_law_1986 (by decide) rfl ?_
  refine j_aload_n X 3 rfl dL_law_1988 rfl ?_
  refine j_aload_n X 1 rfl dL_law_1989 rfl ?_
  refine j_iload X 5 rfl dL_law_1990 ?_
  refine j_iconst X (1 : Int32) dL_law_1992 (by rfl) ?_
  refine j_iadd X dL_law_1993 ?_
  refine r_scr X hI1 dL_law_1994 ?_
  refine j_aload_n X 1 rfl dL_law_1995 rfl ?_
  refine j_iload X 5 rfl dL_law_1996 ?_
  refine j_iconst X (2 : Int32) dL_law_1998 (by rfl) ?_
  refine j_iadd X dL_law_1999 ?_
  refine r_scr X hI1 dL_law_2000 ?_
  refine r_callM X bc1 bs1 hI1 (c_X11_release X.tr SM _ (zD (kB κ)) ((xs (i + (1 : Int32)).toNatClampNeg)) ((xs (i + (2 : Int32)).toNatClampNeg))) me_X11_release ml_L_205 iv_X11_release rfl dL_law_2001 (rest := []) rfl rfl ⟨Nat.le_of_ble_eq_true rfl, Nat.le_of_ble_eq_true rfl⟩ ⟨by show 0 + _ ≤ _; omega, by show 0 + _ ≤ _; omega⟩ (Nat.le_of_ble_eq_true rfl) (fun v2 SM1 X2 hI2 => ?_)
  refine j_istore X [(6, .int v2), (5, .int v), (0, .ref b0), (1, .ref (kB κ + 0)), (2, .ref (kB κ + 358)), (3, .ref (kB κ + 387)), (4, .int i)] dL_law_2004 (by decide) rfl ?_
  refine j_aload_n X 4 rfl dL_law_2006 rfl ?_
  refine r_callN X bc1 bs1 hI2 (c_X11_thrown X.tr SM1 _ (zD (kB κ))) me_X11_thrown ml_L_122 iv_X11_thrown rfl dL_law_2007 (rest := []) rfl rfl ⟨Nat.le_of_ble_eq_true rfl, Nat.le_of_ble_eq_true rfl⟩ ⟨by show 0 + _ ≤ _; omega, by show 0 + _ ≤ _; omega⟩ (Nat.le_of_ble_eq_true rfl) (fun v3 u3 => ?_)
  refine j_iload X 1 rfl dL_law_2010 ?_
  refine j_icmp_eq X 2017 dL_law_2012 (by decide) ?_ j_none
  refine j_iload X 1 rfl dL_law_2017 ?_
  refine j_if_ne X 2034 dL_law_2019 (by decide) ?_ ?_
  · refine j_aload_n X 5 rfl dL_law_2022 rfl ?_
    refine j_iconst X (0 : Int32) dL_law_2023 (by rfl) ?_
    refine r_out X hI2 dL_law_2024 ?_
    refine j_iload X 0 rfl dL_law_2025 ?_
    refine j_i2l X dL_law_2027 ?_
    refine j_lcmp X dL_law_2028 ?_
    refine jh_if_eq X 2034 dL_law_2029 (by decide) (fun hc9 => ?_) (fun hc9 => j_eq (if_neg (fun e9 => hc9 (lg_cmp0.mpr e9))) j_none)
    refine j_eq (if_pos (lg_cmp0.mp hc9)) ?_
    refine j_goto X 2305 dL_law_2034 (by decide) ?_
    refine j_lv [2, 3, 4, 5, 6] rfl ?_
    exact hrec _ _ _ _ _ hI2
  · refine j_goto X 2305 dL_law_2034 (by decide) ?_
    refine j_lv [2, 3, 4, 5, 6] rfl ?_
    exact hrec _ _ _ _ _ hI2
def lawC_26 (N : Nat) (xs : Nat → Int32) (i : Int32) (S : jS) (L : jLg) (w : Nat → Int64) (SM : jS) (rec : jS → jLg → (Nat → Int64) → jS → Option Int32) : Option Int32 := chk (inb (i + (1 : Int32)) N) (jbin0 (f_L_holdTrial S L w (xs (i + (1 : Int32)).toNatClampNeg)) (fun v S1 => chk (inb (i + (1 : Int32)) N) (jbin0 (f_X11_holdTrial SM (xs (i + (1 : Int32)).toNatClampNeg)) (fun v2 SM1 => jbin0 (f_X11_thrown SM1) (fun v3 _ => if v3 = v then (if v = 0 then (if S1.2.2 0 = v2.toInt64 then rec S1.1 S1.2.1 S1.2.2 SM1 else none) else rec S1.1 S1.2.1 S1.2.2 SM1) else none)))))
set_option maxHeartbeats 4000000 in
set_option maxRecDepth 100000 in
theorem c_case_26 {κ : jCx} {Qf : Int32 → State → Prop} {b0 N : Nat} {xs : Nat → Int32} {S SM : jS} {L : jLg} {w : Nat → Int64} {Xm : jMem} {i : Int32} {rec : jS → jLg → (Nat → Int64) → jS → Option Int32} (X : jX κ RL code 7 (some .boolean)) (bc1 bs1 : Nat) (hI : GI (kS κ) (kD κ) (kB κ) (kT κ) b0 N xs SM L w Xm) (hrec : ∀ (S : jS) (L : jLg) (w : Nat → Int64) (SM : jS) (Xm : jMem), GI (kS κ) (kD κ) (kB κ) (kT κ) b0 N xs SM L w Xm → J κ 7 room_1 Qf (rec S L w SM) (memG 0 358 (kD κ) (kB κ) S Xm) (zD (kB κ)) bc1 bs1 [(0, .ref b0), (1, .ref (kB κ + 0)), (2, .ref (kB κ + 358)), (3, .ref (kB κ + 387)), (4, .int i)] 2305 []) : J κ 7 room_1 Qf (lawC_26 N xs i S L w SM rec) (memG 0 358 (kD κ) (kB κ) S Xm) (zD (kB κ)) (bc1 + 16) (bs1 + 3000) [(0, .ref b0), (1, .ref (kB κ + 0)), (2, .ref (kB κ + 358)), (3, .ref (kB κ + 387)), (4, .int i)] 2037 [] := by
  unfold lawC_26
  refine j_aload_n X 1 rfl dL_law_2037 rfl ?_
  refine j_aload_n X 0 rfl dL_law_2038 rfl ?_
  refine j_iload X 4 rfl dL_law_2039 ?_
  refine j_iconst X (1 : Int32) dL_law_2041 (by rfl) ?_
  refine j_iadd X dL_law_2042 ?_
  refine r_scr X hI dL_law_2043 ?_
  refine j_aload_n X 3 rfl dL_law_2044 rfl ?_
  refine r_callL X bc1 bs1 hI (c_L_holdTrial X.tr S Xm L w hI.2.1 hI.2.2.1 ((xs (i + (1 : Int32)).toNatClampNeg))) mh_L_holdTrial ml_L_206 st_L_holdTrial dL_law_2045 (rest := []) rfl rfl ⟨Nat.le_of_ble_eq_true rfl, Nat.le_of_ble_eq_true rfl⟩ ⟨by show 5 + _ ≤ _; omega, by show 623 + _ ≤ _; omega⟩ (Nat.le_of_ble_eq_true rfl) (fun v S1 X1 hI1 => ?_)
  refine j_istore X [(5, .int v), (0, .ref b0), (1, .ref (kB κ + 0)), (2, .ref (kB κ + 358)), (3, .ref (kB κ + 387)), (4, .int i)] dL_law_2048 (by decide) rfl ?_
  refine j_aload_n X 3 rfl dL_law_2050 rfl ?_
  refine j_aload_n X 1 rfl dL_law_2051 rfl ?_
  refine j_iload X 5 rfl dL_law_2052 ?_
  refine j_iconst X (1 : Int32) dL_law_2054 (by rfl) ?_
  refine j_iadd X dL_law_2055 ?_
  refine r_scr X hI1 dL_law_2056 ?_
  refine r_callM X bc1 bs1 hI1 (c_X11_holdTrial X.tr SM _ (zD (kB κ)) ((xs (i + (1 : Int32)).toNatClampNeg))) me_X11_holdTrial ml_L_208 iv_X11_holdTrial rfl dL_law_2057 (rest := []) rfl rfl ⟨Nat.le_of_ble_eq_true rfl, Nat.le_of_ble_eq_true rfl⟩ ⟨by show 0 + _ ≤ _; omega, by show 0 + _ ≤ _; omega⟩ (Nat.le_of_ble_eq_true rfl) (fun v2 SM1 X2 hI2 => ?_)
  refine j_istore X [(6, .int v2), (5, .int v), (0, .ref b0), (1, .ref (kB κ + 0)), (2, .ref (kB κ + 358)), (3, .ref (kB κ + 387)), (4, .int i)] dL_law_2060 (by decide) rfl ?_
  refine j_aload_n X 4 rfl dL_law_2062 rfl ?_
  refine r_callN X bc1 bs1 hI2 (c_X11_thrown X.tr SM1 _ (zD (kB κ))) me_X11_thrown ml_L_122 iv_X11_thrown rfl dL_law_2063 (rest := []) rfl rfl ⟨Nat.le_of_ble_eq_true rfl, Nat.le_of_ble_eq_true rfl⟩ ⟨by show 0 + _ ≤ _; omega, by show 0 + _ ≤ _; omega⟩ (Nat.le_of_ble_eq_true rfl) (fun v3 u3 => ?_)
  refine j_iload X 1 rfl dL_law_2066 ?_
  refine j_icmp_eq X 2073 dL_law_2068 (by decide) ?_ j_none
  refine j_iload X 1 rfl dL_law_2073 ?_
  refine j_if_ne X 2090 dL_law_2075 (by decide) ?_ ?_
  · refine j_aload_n X 5 rfl dL_law_2078 rfl ?_
    refine j_iconst X (0 : Int32) dL_law_2079 (by rfl) ?_
    refine r_out X hI2 dL_law_2080 ?_
    refine j_iload X 0 rfl dL_law_2081 ?_
    refine j_i2l X dL_law_2083 ?_
    refine j_lcmp X dL_law_2084 ?_
    refine jh_if_eq X 2090 dL_law_2085 (by decide) (fun hc9 => ?_) (fun hc9 => j_eq (if_neg (fun e9 => hc9 (lg_cmp0.mpr e9))) j_none)
    refine j_eq (if_pos (lg_cmp0.mp hc9)) ?_
    refine j_goto X 2305 dL_law_2090 (by decide) ?_
    refine j_lv [2, 3, 4, 5, 6] rfl ?_
    exact hrec _ _ _ _ _ hI2
  · refine j_goto X 2305 dL_law_2090 (by decide) ?_
    refine j_lv [2, 3, 4, 5, 6] rfl ?_
    exact hrec _ _ _ _ _ hI2
def lawC_27 (N : Nat) (xs : Nat → Int32) (i : Int32) (S : jS) (L : jLg) (w : Nat → Int64) (SM : jS) (rec : jS → jLg → (Nat → Int64) → jS → Option Int32) : Option Int32 := chk (inb (i + (1 : Int32)) N) (jbin0 (f_L_releaseTrial S L w (xs (i + (1 : Int32)).toNatClampNeg)) (fun v S1 => chk (inb (i + (1 : Int32)) N) (jbin0 (f_X11_releaseTrial SM (xs (i + (1 : Int32)).toNatClampNeg)) (fun v2 SM1 => jbin0 (f_X11_thrown SM1) (fun v3 _ => if v3 = v then (if v = 0 then (if S1.2.2 0 = v2.toInt64 then rec S1.1 S1.2.1 S1.2.2 SM1 else none) else rec S1.1 S1.2.1 S1.2.2 SM1) else none)))))
set_option maxHeartbeats 4000000 in
set_option maxRecDepth 100000 in
theorem c_case_27 {κ : jCx} {Qf : Int32 → State → Prop} {b0 N : Nat} {xs : Nat → Int32} {S SM : jS} {L : jLg} {w : Nat → Int64} {Xm : jMem} {i : Int32} {rec : jS → jLg → (Nat → Int64) → jS → Option Int32} (X : jX κ RL code 7 (some .boolean)) (bc1 bs1 : Nat) (hI : GI (kS κ) (kD κ) (kB κ) (kT κ) b0 N xs SM L w Xm) (hrec : ∀ (S : jS) (L : jLg) (w : Nat → Int64) (SM : jS) (Xm : jMem), GI (kS κ) (kD κ) (kB κ) (kT κ) b0 N xs SM L w Xm → J κ 7 room_1 Qf (rec S L w SM) (memG 0 358 (kD κ) (kB κ) S Xm) (zD (kB κ)) bc1 bs1 [(0, .ref b0), (1, .ref (kB κ + 0)), (2, .ref (kB κ + 358)), (3, .ref (kB κ + 387)), (4, .int i)] 2305 []) : J κ 7 room_1 Qf (lawC_27 N xs i S L w SM rec) (memG 0 358 (kD κ) (kB κ) S Xm) (zD (kB κ)) (bc1 + 16) (bs1 + 3000) [(0, .ref b0), (1, .ref (kB κ + 0)), (2, .ref (kB κ + 358)), (3, .ref (kB κ + 387)), (4, .int i)] 2093 [] := by
  unfold lawC_27
  refine j_aload_n X 1 rfl dL_law_2093 rfl ?_
  refine j_aload_n X 0 rfl dL_law_2094 rfl ?_
  refine j_iload X 4 rfl dL_law_2095 ?_
  refine j_iconst X (1 : Int32) dL_law_2097 (by rfl) ?_
  refine j_iadd X dL_law_2098 ?_
  refine r_scr X hI dL_law_2099 ?_
  refine j_aload_n X 3 rfl dL_law_2100 rfl ?_
  refine r_callL X bc1 bs1 hI (c_L_releaseTrial X.tr S Xm L w hI.2.1 hI.2.2.1 ((xs (i + (1 : Int32)).toNatClampNeg))) mh_L_releaseTrial ml_L_209 st_L_releaseTrial dL_law_2101 (rest := []) rfl rfl ⟨Nat.le_of_ble_eq_true rfl, Nat.le_of_ble_eq_true rfl⟩ ⟨by show 5 + _ ≤ _; omega, by show 623 + _ ≤ _; omega⟩ (Nat.le_of_ble_eq_true rfl) (fun v S1 X1 hI1 => ?_)
  refine j_istore X [(5, .int v), (0, .ref b0), (1, .ref (kB κ + 0)), (2, .ref (kB κ + 358)), (3, .ref (kB κ + 387)), (4, .int i)] dL_law_2104 (by decide) rfl ?_
  refine j_aload_n X 3 rfl dL_law_2106 rfl ?_
  refine j_aload_n X 1 rfl dL_law_2107 rfl ?_
  refine j_iload X 5 rfl dL_law_2108 ?_
  refine j_iconst X (1 : Int32) dL_law_2110 (by rfl) ?_
  refine j_iadd X dL_law_2111 ?_
  refine r_scr X hI1 dL_law_2112 ?_
  refine r_callM X bc1 bs1 hI1 (c_X11_releaseTrial X.tr SM _ (zD (kB κ)) ((xs (i + (1 : Int32)).toNatClampNeg))) me_X11_releaseTrial ml_L_211 iv_X11_releaseTrial rfl dL_law_2113 (rest := []) rfl rfl ⟨Nat.le_of_ble_eq_true rfl, Nat.le_of_ble_eq_true rfl⟩ ⟨by show 0 + _ ≤ _; omega, by show 0 + _ ≤ _; omega⟩ (Nat.le_of_ble_eq_true rfl) (fun v2 SM1 X2 hI2 => ?_)
  refine j_istore X [(6, .int v2), (5, .int v), (0, .ref b0), (1, .ref (kB κ + 0)), (2, .ref (kB κ + 358)), (3, .ref (kB κ + 387)), (4, .int i)] dL_law_2116 (by decide) rfl ?_
  refine j_aload_n X 4 rfl dL_law_2118 rfl ?_
  refine r_callN X bc1 bs1 hI2 (c_X11_thrown X.tr SM1 _ (zD (kB κ))) me_X11_thrown ml_L_122 iv_X11_thrown rfl dL_law_2119 (rest := []) rfl rfl ⟨Nat.le_of_ble_eq_true rfl, Nat.le_of_ble_eq_true rfl⟩ ⟨by show 0 + _ ≤ _; omega, by show 0 + _ ≤ _; omega⟩ (Nat.le_of_ble_eq_true rfl) (fun v3 u3 => ?_)
  refine j_iload X 1 rfl dL_law_2122 ?_
  refine j_icmp_eq X 2129 dL_law_2124 (by decide) ?_ j_none
  refine j_iload X 1 rfl dL_law_2129 ?_
  refine j_if_ne X 2146 dL_law_2131 (by decide) ?_ ?_
  · refine j_aload_n X 5 rfl dL_law_2134 rfl ?_
    refine j_iconst X (0 : Int32) dL_law_2135 (by rfl) ?_
    refine r_out X hI2 dL_law_2136 ?_
    refine j_iload X 0 rfl dL_law_2137 ?_
    refine j_i2l X dL_law_2139 ?_
    refine j_lcmp X dL_law_2140 ?_
    refine jh_if_eq X 2146 dL_law_2141 (by decide) (fun hc9 => ?_) (fun hc9 => j_eq (if_neg (fun e9 => hc9 (lg_cmp0.mpr e9))) j_none)
    refine j_eq (if_pos (lg_cmp0.mp hc9)) ?_
    refine j_goto X 2305 dL_law_2146 (by decide) ?_
    refine j_lv [2, 3, 4, 5, 6] rfl ?_
    exact hrec _ _ _ _ _ hI2
  · refine j_goto X 2305 dL_law_2146 (by decide) ?_
    refine j_lv [2, 3, 4, 5, 6] rfl ?_
    exact hrec _ _ _ _ _ hI2
def lawC_28 (N : Nat) (xs : Nat → Int32) (i : Int32) (S : jS) (L : jLg) (w : Nat → Int64) (SM : jS) (rec : jS → jLg → (Nat → Int64) → jS → Option Int32) : Option Int32 := chk (inb (i + (1 : Int32)) N) (chk (inb (i + (2 : Int32)) N) (jbin0 (f_L_isHeld S L w (xs (i + (1 : Int32)).toNatClampNeg) (xs (i + (2 : Int32)).toNatClampNeg)) (fun v S1 => chk (inb (i + (1 : Int32)) N) (chk (inb (i + (2 : Int32)) N) (jbin0 (f_X11_isHeld SM (xs (i + (1 : Int32)).toNatClampNeg) (xs (i + (2 : Int32)).toNatClampNeg)) (fun v2 SM1 => jbin0 (f_X11_thrown SM1) (fun v3 _ => if v3 = v then (if v = 0 then (if S1.2.2 0 = zl v2 then rec S1.1 S1.2.1 S1.2.2 SM1 else none) else rec S1.1 S1.2.1 S1.2.2 SM1) else none)))))))
set_option maxHeartbeats 4000000 in
set_option maxRecDepth 100000 in
theorem c_case_28 {κ : jCx} {Qf : Int32 → State → Prop} {b0 N : Nat} {xs : Nat → Int32} {S SM : jS} {L : jLg} {w : Nat → Int64} {Xm : jMem} {i : Int32} {rec : jS → jLg → (Nat → Int64) → jS → Option Int32} (X : jX κ RL code 7 (some .boolean)) (bc1 bs1 : Nat) (hI : GI (kS κ) (kD κ) (kB κ) (kT κ) b0 N xs SM L w Xm) (hrec : ∀ (S : jS) (L : jLg) (w : Nat → Int64) (SM : jS) (Xm : jMem), GI (kS κ) (kD κ) (kB κ) (kT κ) b0 N xs SM L w Xm → J κ 7 room_1 Qf (rec S L w SM) (memG 0 358 (kD κ) (kB κ) S Xm) (zD (kB κ)) bc1 bs1 [(0, .ref b0), (1, .ref (kB κ + 0)), (2, .ref (kB κ + 358)), (3, .ref (kB κ + 387)), (4, .int i)] 2305 []) : J κ 7 room_1 Qf (lawC_28 N xs i S L w SM rec) (memG 0 358 (kD κ) (kB κ) S Xm) (zD (kB κ)) (bc1 + 16) (bs1 + 3000) [(0, .ref b0), (1, .ref (kB κ + 0)), (2, .ref (kB κ + 358)), (3, .ref (kB κ + 387)), (4, .int i)] 2149 [] := by
  unfold lawC_28
  refine j_aload_n X 1 rfl dL_law_2149 rfl ?_
  refine j_aload_n X 0 rfl dL_law_2150 rfl ?_
  refine j_iload X 4 rfl dL_law_2151 ?_
  refine j_iconst X (1 : Int32) dL_law_2153 (by rfl) ?_
  refine j_iadd X dL_law_2154 ?_
  refine r_scr X hI dL_law_2155 ?_
  refine j_aload_n X 0 rfl dL_law_2156 rfl ?_
  refine j_iload X 4 rfl dL_law_2157 ?_
  refine j_iconst X (2 : Int32) dL_law_2159 (by rfl) ?_
  refine j_iadd X dL_law_2160 ?_
  refine r_scr X hI dL_law_2161 ?_
  refine j_aload_n X 3 rfl dL_law_2162 rfl ?_
  refine r_callL X bc1 bs1 hI (c_L_isHeld X.tr S Xm L w hI.2.1 hI.2.2.1 ((xs (i + (1 : Int32)).toNatClampNeg)) ((xs (i + (2 : Int32)).toNatClampNeg))) mh_L_isHeld ml_L_212 st_L_isHeld dL_law_2163 (rest := []) rfl rfl ⟨Nat.le_of_ble_eq_true rfl, Nat.le_of_ble_eq_true rfl⟩ ⟨by show 2 + _ ≤ _; omega, by show 12 + _ ≤ _; omega⟩ (Nat.le_of_ble_eq_true rfl) (fun v S1 X1 hI1 => ?_)
  refine j_istore X [(5, .int v), (0, .ref b0), (1, .ref (kB κ + 0)), (2, .ref (kB κ + 358)), (3, .ref (kB κ + 387)), (4, .int i)] dL_law_2166 (by decide) rfl ?_
  refine j_aload_n X 3 rfl dL_law_2168 rfl ?_
  refine j_aload_n X 1 rfl dL_law_2169 rfl ?_
  refine j_iload X 5 rfl dL_law_2170 ?_
  refine j_iconst X (1 : Int32) dL_law_2172 (by rfl) ?_
  refine j_iadd X dL_law_2173 ?_
  refine r_scr X hI1 dL_law_2174 ?_
  refine j_aload_n X 1 rfl dL_law_2175 rfl ?_
  refine j_iload X 5 rfl dL_law_2176 ?_
  refine j_iconst X (2 : Int32) dL_law_2178 (by rfl) ?_
  refine j_iadd X dL_law_2179 ?_
  refine r_scr X hI1 dL_law_2180 ?_
  refine r_callM X bc1 bs1 hI1 (c_X11_isHeld X.tr SM _ (zD (kB κ)) ((xs (i + (1 : Int32)).toNatClampNeg)) ((xs (i + (2 : Int32)).toNatClampNeg))) me_X11_isHeld ml_L_214 iv_X11_isHeld rfl dL_law_2181 (rest := []) rfl rfl ⟨Nat.le_of_ble_eq_true rfl, Nat.le_of_ble_eq_true rfl⟩ ⟨by show 0 + _ ≤ _; omega, by show 0 + _ ≤ _; omega⟩ (Nat.le_of_ble_eq_true rfl) (fun v2 SM1 X2 hI2 => ?_)
  refine j_istore X [(6, .int v2), (5, .int v), (0, .ref b0), (1, .ref (kB κ + 0)), (2, .ref (kB κ + 358)), (3, .ref (kB κ + 387)), (4, .int i)] dL_law_2184 (by decide) rfl ?_
  refine j_aload_n X 4 rfl dL_law_2186 rfl ?_
  refine r_callN X bc1 bs1 hI2 (c_X11_thrown X.tr SM1 _ (zD (kB κ))) me_X11_thrown ml_L_122 iv_X11_thrown rfl dL_law_2187 (rest := []) rfl rfl ⟨Nat.le_of_ble_eq_true rfl, Nat.le_of_ble_eq_true rfl⟩ ⟨by show 0 + _ ≤ _; omega, by show 0 + _ ≤ _; omega⟩ (Nat.le_of_ble_eq_true rfl) (fun v3 u3 => ?_)
  refine j_iload X 1 rfl dL_law_2190 ?_
  refine j_icmp_eq X 2197 dL_law_2192 (by decide) ?_ j_none
  refine j_iload X 1 rfl dL_law_2197 ?_
  refine j_if_ne X 2221 dL_law_2199 (by decide) ?_ ?_
  · refine j_aload_n X 5 rfl dL_law_2202 rfl ?_
    refine j_iconst X (0 : Int32) dL_law_2203 (by rfl) ?_
    refine r_out X hI2 dL_law_2204 ?_
    refine j_iload X 0 rfl dL_law_2205 ?_
    refine jh_if_eq X 2214 dL_law_2207 (by decide) (fun hz8 => ?_) (fun hz8 => ?_)
    · rw [show zl v2 = 0 from if_pos hz8]
      refine j_lconst X (0 : Int64) dL_law_2214 (by rfl) ?_
      refine j_lcmp X dL_law_2215 ?_
      refine jh_if_eq X 2221 dL_law_2216 (by decide) (fun hc9 => ?_) (fun hc9 => j_eq (if_neg (fun e9 => hc9 (lg_cmp0.mpr e9))) j_none)
      refine j_eq (if_pos (lg_cmp0.mp hc9)) ?_
      refine j_goto X 2305 dL_law_2221 (by decide) ?_
      refine j_lv [2, 3, 4, 5, 6] rfl ?_
      exact hrec _ _ _ _ _ hI2
    · rw [show zl v2 = 1 from if_neg hz8]
      refine j_lconst X (1 : Int64) dL_law_2210 (by rfl) ?_
      refine j_goto X 2215 dL_law_2211 (by decide) ?_
      refine j_lcmp X dL_law_2215 ?_
      refine jh_if_eq X 2221 dL_law_2216 (by decide) (fun hc9 => ?_) (fun hc9 => j_eq (if_neg (fun e9 => hc9 (lg_cmp0.mpr e9))) j_none)
      refine j_eq (if_pos (lg_cmp0.mp hc9)) ?_
      refine j_goto X 2305 dL_law_2221 (by decide) ?_
      refine j_lv [2, 3, 4, 5, 6] rfl ?_
      exact hrec _ _ _ _ _ hI2
  · refine j_goto X 2305 dL_law_2221 (by decide) ?_
    refine j_lv [2, 3, 4, 5, 6] rfl ?_
    exact hrec _ _ _ _ _ hI2
def lawC_29 (S : jS) (L : jLg) (w : Nat → Int64) (SM : jS) (rec : jS → jLg → (Nat → Int64) → jS → Option Int32) : Option Int32 := jbin0 (f_X10_entries S L) (fun v _ => jbin0 (f_X11_entries SM) (fun v2 SM1 => if v = v2 then rec S L w SM1 else none))
theorem c_case_29 {κ : jCx} {Qf : Int32 → State → Prop} {b0 N : Nat} {xs : Nat → Int32} {S SM : jS} {L : jLg} {w : Nat → Int64} {Xm : jMem} {i : Int32} {rec : jS → jLg → (Nat → Int64) → jS → Option Int32} (X : jX κ RL code 7 (some .boolean)) (bc1 bs1 : Nat) (hI : GI (kS κ) (kD κ) (kB κ) (kT κ) b0 N xs SM L w Xm) (hrec : ∀ (S : jS) (L : jLg) (w : Nat → Int64) (SM : jS) (Xm : jMem), GI (kS κ) (kD κ) (kB κ) (kT κ) b0 N xs SM L w Xm → J κ 7 room_1 Qf (rec S L w SM) (memG 0 358 (kD κ) (kB κ) S Xm) (zD (kB κ)) bc1 bs1 [(0, .ref b0), (1, .ref (kB κ + 0)), (2, .ref (kB κ + 358)), (3, .ref (kB κ + 387)), (4, .int i)] 2305 []) : J κ 7 room_1 Qf (lawC_29 S L w SM rec) (memG 0 358 (kD κ) (kB κ) S Xm) (zD (kB κ)) (bc1 + 16) (bs1 + 3000) [(0, .ref b0), (1, .ref (kB κ + 0)), (2, .ref (kB κ + 358)), (3, .ref (kB κ + 387)), (4, .int i)] 2224 [] := by
  unfold lawC_29
  refine j_aload_n X 1 rfl dL_law_2224 rfl ?_
  refine j_call0V X bc1 bs1 (c_X10_entries X.tr S Xm (zD (kB κ)) L hI.2.1) me_X10_entries ml_L_215 iv_X10_entries cf_X10 dL_law_2225 (memG_at kf_0) (rest := []) rfl rfl ⟨Nat.le_of_ble_eq_true rfl, Nat.le_of_ble_eq_true rfl⟩ ⟨by show 0 + _ ≤ _; omega, by show 0 + _ ≤ _; omega⟩ (Nat.le_of_ble_eq_true rfl) (fun v u M1 hM1 => ?_)
  subst hM1
  refine j_st (st1 := [.int v]) rfl ?_
  refine j_aload_n X 2 rfl dL_law_2228 rfl ?_
  refine r_callM X bc1 bs1 hI (c_X11_entries X.tr SM _ (zD (kB κ))) me_X11_entries ml_L_218 iv_X11_entries rfl dL_law_2229 (rest := [.int v]) rfl rfl ⟨Nat.le_of_ble_eq_true rfl, Nat.le_of_ble_eq_true rfl⟩ ⟨by show 0 + _ ≤ _; omega, by show 0 + _ ≤ _; omega⟩ (Nat.le_of_ble_eq_true rfl) (fun v2 SM1 X2 hI2 => ?_)
  refine j_icmp_eq X 2305 dL_law_2232 (by decide) (hrec S L w SM1 X2 hI2) j_none
def lawC_30 (N : Nat) (xs : Nat → Int32) (i : Int32) (S : jS) (L : jLg) (w : Nat → Int64) (SM : jS) (rec : jS → jLg → (Nat → Int64) → jS → Option Int32) : Option Int32 := chk (inb (i + (1 : Int32)) N) (chk (inb (i + (2 : Int32)) N) (jbin0 (f_L_shownLast S L w (xs (i + (1 : Int32)).toNatClampNeg) (xs (i + (2 : Int32)).toNatClampNeg)) (fun v S1 => chk (inb (i + (1 : Int32)) N) (chk (inb (i + (2 : Int32)) N) (jbin0 (f_X11_shownLast SM (xs (i + (1 : Int32)).toNatClampNeg) (xs (i + (2 : Int32)).toNatClampNeg)) (fun v2 SM1 => jbin0 (f_X11_thrown SM1) (fun v3 _ => if v3 = v then (if v = 0 then (if S1.2.2 0 = v2.toInt64 then rec S1.1 S1.2.1 S1.2.2 SM1 else none) else rec S1.1 S1.2.1 S1.2.2 SM1) else none)))))))
set_option maxHeartbeats 4000000 in
set_option maxRecDepth 100000 in
theorem c_case_30 {κ : jCx} {Qf : Int32 → State → Prop} {b0 N : Nat} {xs : Nat → Int32} {S SM : jS} {L : jLg} {w : Nat → Int64} {Xm : jMem} {i : Int32} {rec : jS → jLg → (Nat → Int64) → jS → Option Int32} (X : jX κ RL code 7 (some .boolean)) (bc1 bs1 : Nat) (hI : GI (kS κ) (kD κ) (kB κ) (kT κ) b0 N xs SM L w Xm) (hrec : ∀ (S : jS) (L : jLg) (w : Nat → Int64) (SM : jS) (Xm : jMem), GI (kS κ) (kD κ) (kB κ) (kT κ) b0 N xs SM L w Xm → J κ 7 room_1 Qf (rec S L w SM) (memG 0 358 (kD κ) (kB κ) S Xm) (zD (kB κ)) bc1 bs1 [(0, .ref b0), (1, .ref (kB κ + 0)), (2, .ref (kB κ + 358)), (3, .ref (kB κ + 387)), (4, .int i)] 2305 []) : J κ 7 room_1 Qf (lawC_30 N xs i S L w SM rec) (memG 0 358 (kD κ) (kB κ) S Xm) (zD (kB κ)) (bc1 + 16) (bs1 + 3000) [(0, .ref b0), (1, .ref (kB κ + 0)), (2, .ref (kB κ + 358)), (3, .ref (kB κ + 387)), (4, .int i)] 2237 [] := by
  unfold lawC_30
  refine j_aload_n X 1 rfl dL_law_2237 rfl ?_
  refine j_aload_n X 0 rfl dL_law_2238 rfl ?_
  refine j_iload X 4 rfl dL_law_2239 ?_
  refine j_iconst X (1 : Int32) dL_law_2241 (by rfl) ?_
  refine j_iadd X dL_law_2242 ?_
  refine r_scr X hI dL_law_2243 ?_
  refine j_aload_n X 0 rfl dL_law_2244 rfl ?_
  refine j_iload X 4 rfl dL_law_2245 ?_
  refine j_iconst X (2 : Int32) dL_law_2247 (by rfl) ?_
  refine j_iadd X dL_law_2248 ?_
  refine r_scr X hI dL_law_2249 ?_
  refine j_aload_n X 3 rfl dL_law_2250 rfl ?_
  refine r_callL X bc1 bs1 hI (c_L_shownLast X.tr S Xm L w hI.2.1 hI.2.2.1 ((xs (i + (1 : Int32)).toNatClampNeg)) ((xs (i + (2 : Int32)).toNatClampNeg))) mh_L_shownLast ml_L_219 st_L_shownLast dL_law_2251 (rest := []) rfl rfl ⟨Nat.le_of_ble_eq_true rfl, Nat.le_of_ble_eq_true rfl⟩ ⟨by show 2 + _ ≤ _; omega, by show 12 + _ ≤ _; omega⟩ (Nat.le_of_ble_eq_true rfl) (fun v S1 X1 hI1 => ?_)
  refine j_istore X [(5, .int v), (0, .ref b0), (1, .ref (kB κ + 0)), (2, .ref (kB κ + 358)), (3, .ref (kB κ + 387)), (4, .int i)] dL_law_2254 (by decide) rfl ?_
  refine j_aload_n X 3 rfl dL_law_2256 rfl ?_
  refine j_aload_n X 1 rfl dL_law_2257 rfl ?_
  refine j_iload X 5 rfl dL_law_2258 ?_
  refine j_iconst X (1 : Int32) dL_law_2260 (by rfl) ?_
  refine j_iadd X dL_law_2261 ?_
  refine r_scr X hI1 dL_law_2262 ?_
  refine j_aload_n X 1 rfl dL_law_2263 rfl ?_
  refine j_iload X 5 rfl dL_law_2264 ?_
  refine j_iconst X (2 : Int32) dL_law_2266 (by rfl) ?_
  refine j_iadd X dL_law_2267 ?_
  refine r_scr X hI1 dL_law_2268 ?_
  refine r_callM X bc1 bs1 hI1 (c_X11_shownLast X.tr SM _ (zD (kB κ)) ((xs (i + (1 : Int32)).toNatClampNeg)) ((xs (i + (2 : Int32)).toNatClampNeg))) me_X11_shownLast ml_L_221 iv_X11_shownLast rfl dL_law_2269 (rest := []) rfl rfl ⟨Nat.le_of_ble_eq_true rfl, Nat.le_of_ble_eq_true rfl⟩ ⟨by show 0 + _ ≤ _; omega, by show 0 + _ ≤ _; omega⟩ (Nat.le_of_ble_eq_true rfl) (fun v2 SM1 X2 hI2 => ?_)
  refine j_istore X [(6, .int v2), (5, .int v), (0, .ref b0), (1, .ref (kB κ + 0)), (2, .ref (kB κ + 358)), (3, .ref (kB κ + 387)), (4, .int i)] dL_law_2272 (by decide) rfl ?_
  refine j_aload_n X 4 rfl dL_law_2274 rfl ?_
  refine r_callN X bc1 bs1 hI2 (c_X11_thrown X.tr SM1 _ (zD (kB κ))) me_X11_thrown ml_L_122 iv_X11_thrown rfl dL_law_2275 (rest := []) rfl rfl ⟨Nat.le_of_ble_eq_true rfl, Nat.le_of_ble_eq_true rfl⟩ ⟨by show 0 + _ ≤ _; omega, by show 0 + _ ≤ _; omega⟩ (Nat.le_of_ble_eq_true rfl) (fun v3 u3 => ?_)
  refine j_iload X 1 rfl dL_law_2278 ?_
  refine j_icmp_eq X 2285 dL_law_2280 (by decide) ?_ j_none
  refine j_iload X 1 rfl dL_law_2285 ?_
  refine j_if_ne X 2302 dL_law_2287 (by decide) ?_ ?_
  · refine j_aload_n X 5 rfl dL_law_2290 rfl ?_
    refine j_iconst X (0 : Int32) dL_law_2291 (by rfl) ?_
    refine r_out X hI2 dL_law_2292 ?_
    refine j_iload X 0 rfl dL_law_2293 ?_
    refine j_i2l X dL_law_2295 ?_
    refine j_lcmp X dL_law_2296 ?_
    refine jh_if_eq X 2302 dL_law_2297 (by decide) (fun hc9 => ?_) (fun hc9 => j_eq (if_neg (fun e9 => hc9 (lg_cmp0.mpr e9))) j_none)
    refine j_eq (if_pos (lg_cmp0.mp hc9)) ?_
    refine j_goto X 2305 dL_law_2302 (by decide) ?_
    refine j_lv [2, 3, 4, 5, 6] rfl ?_
    exact hrec _ _ _ _ _ hI2
  · refine j_goto X 2305 dL_law_2302 (by decide) ?_
    refine j_lv [2, 3, 4, 5, 6] rfl ?_
    exact hrec _ _ _ _ _ hI2
end GLW
