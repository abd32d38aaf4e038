section LAWT
theorem like_ok {e v : Int32} {S T SM : jS} {L L2 : jLg} {rec : jS → jLg → jS → jLg → Option Int32} (h : InvL S L SM) (h2 : InvL T L2 SM) (hrec : ∀ S L T L2 SM, InvL S L SM → InvL T L2 SM → rec S L T L2 = some 1) : lawLike e v S L T L2 rec = some 1 := by
  unfold lawLike
  obtain ⟨S1, T1, ea, a1, a2⟩ := w_alike h h2 v
  rw [ea, jbin0_s, if_neg (by decide)]
  dsimp only
  split
  · obtain ⟨k, hk, ek⟩ := f_low (x := v >>> ((3 : Int32) &&& 31)) (n := 8) (by omega) (by omega)
    have ek : f_L_low (v >>> ((3 : Int32) &&& 31)) (8 : Int32) = some (0, Int32.ofNat k, ()) := ek
    obtain ⟨S2, ef, a3⟩ := w_flag a1 (show k ≤ 7 by omega)
    obtain ⟨m, hm, em⟩ := f_low (x := v >>> ((6 : Int32) &&& 31)) (n := 6) (by omega) (by omega)
    have em : f_L_low (v >>> ((6 : Int32) &&& 31)) (6 : Int32) = some (0, Int32.ofNat m, ()) := em
    rw [ek, jbin0_s, ef, jbin0_s, if_neg (by decide), em, jbin0_s, w_trial a3 (show m ≤ 5 by omega), jbin0_s, if_neg (by decide)]
    exact hrec _ _ _ _ SM a3 a2
  · exact hrec _ _ _ _ SM a1 a2
theorem fin_ok {S SM : jS} {L : jLg} (h : InvL S L SM) : lawFin S L = some 1 := by
  unfold lawFin
  obtain ⟨S1, SM1, e1, h1⟩ := w_moved h (show 0 ≤ 5 by omega)
  obtain ⟨S2, SM2, e2, h2⟩ := w_moved h1 (show 1 ≤ 5 by omega)
  obtain ⟨S3, e3, h3⟩ := w_flag h2 (show 0 ≤ 7 by omega)
  obtain ⟨S4, e4, h4⟩ := w_flag h3 (show 1 ≤ 7 by omega)
  have e1 : f_L_isMovedSo S L (0 : Int32) = some (0, 1, (S1, L)) := e1
  have e2 : f_L_isMovedSo S1 L (1 : Int32) = some (0, 1, (S2, L)) := e2
  have e3 : f_L_isFlagSo S2 L (0 : Int32) = some (0, 1, S3) := e3
  have e4 : f_L_isFlagSo S3 L (1 : Int32) = some (0, 1, S4) := e4
  rw [e1, jbin0_s, if_neg (by decide), e2, jbin0_s, if_neg (by decide), e3, jbin0_s, if_neg (by decide), e4, jbin0_s, if_neg (by decide)]
theorem cell_ok {N : Nat} {xs : Nat → Int32} (hN : N ≤ 260) {e : Nat} (he : e < 100) : ∃ v, f_L_cell N xs (Int32.ofNat e) = some (0, v, ()) := by
  unfold f_L_cell
  have h : (Int32.ofNat N ≤ Int32.ofNat e) = (N ≤ e) := n32_le (by omega) (by omega)
  by_cases hc : N ≤ e
  · rw [if_pos (Eq.mpr h hc)]
    exact ⟨_, rfl⟩
  · rw [if_neg (fun h9 => hc (Eq.mp h h9)), chk_t (n32_inb (by omega) (by omega))]
    exact ⟨_, rfl⟩
theorem law_go {N : Nat} {xs : Nat → Int32} (hN : N ≤ 260) : ∀ (n e : Nat) (S : jS) (L : jLg) (T : jS) (L2 : jLg) (SM : jS), InvL S L SM → InvL T L2 SM → e ≤ 100 → 100 < e + n → lawF N xs n (Int32.ofNat e) S L T L2 = some 1
  | 0, e, _, _, _, _, _, _, _, he, hn => absurd hn (by omega)
  | n + 1, e, S, L, T, L2, SM, h, h2, he, hn => by
    show lawStep N xs (Int32.ofNat e) S L T L2 (lawF N xs n (Int32.ofNat e + (1 : Int32))) = some 1
    unfold lawStep
    have h100 : ((100 : Int32) ≤ Int32.ofNat e) = (100 ≤ e) := n32_le (n := 100) (by omega) (by omega)
    by_cases hc : 100 ≤ e
    · rw [if_pos (Eq.mpr h100 hc)]
      exact fin_ok h
    · obtain ⟨v, ev⟩ := cell_ok (xs := xs) hN (show e < 100 by omega)
      rw [if_neg (fun h9 => hc (Eq.mp h100 h9)), ev, jbin0_s, n32_succ]
      have hrec : ∀ S L T L2 SM, InvL S L SM → InvL T L2 SM → lawF N xs n (Int32.ofNat (e + 1)) S L T L2 = some 1 := fun S L T L2 SM a b => law_go hN n (e + 1) S L T L2 SM a b (by omega) (by omega)
      obtain ⟨told, S1, L1, e1, hh⟩ := ao_act (v := v) SM S L h
      have e1 : f_L_act S L v = some (0, told, (S1, L1)) := e1
      rw [e1, jbin0_s]
      rcases hh with ⟨ht, hI⟩ | ⟨ht, SM1, hI, hT⟩
      · rw [if_pos ht]
        exact like_ok hI h2 hrec
      · obtain ⟨T1, L21, e2, hJ⟩ := hT T L2 h2
        have e2 : f_L_act T L2 v = some (0, told, (T1, L21)) := e2
        rw [if_neg ht, e2, jbin0_s, if_pos rfl]
        exact like_ok hI hJ hrec
theorem law_true : LawTrue := by
  obtain ⟨SG, p6, vG, eG, hG, hGo⟩ := arr_0 (b := 27) (n := 6) (Or.inl rfl)
  obtain ⟨SH, p8, vH, eH, hH, hHo⟩ := arr_0 (b := 62) (n := 8) (Or.inr rfl)
  refine ⟨vG, vH, 0, SG, SH, fg3 68 (fg1 68 0 zS), fun p => fg3 (82 + 12 * p) (fg1 (82 + 12 * p) 0 zS), eG, eH, f_forget, fun p _ => ⟨0, f_forget⟩, fun N xs hN => ?_⟩
  exact law_go hN 101 0 _ [] _ [] zS (inv_0 hG hGo hH hHo) (inv_0 hG hGo hH hHo) (by omega) (by omega)
end LAWT
