/-! Words, numbers, semicolons. -/
theorem z_len (t : Nat) : rx_len.getD t 0 ≤ 135 := by
  by_cases h : t < 27
  · exact (by decide : ∀ t : Nat, t < 27 → rx_len.getD t 0 ≤ 135) t h
  · rw [List.getD_eq_getElem?_getD, List.getElem?_eq_none (by show 27 ≤ t; omega)]
    exact Nat.zero_le _
section WORDS
variable {ot om ot2 om2 ot3 om3 : ob} {E n s : Nat}
theorem T_is (h : T2 E ot om) (t : Nat) : ∃ w : Int32, (w = 0 ∨ w = 1) ∧ F_X6_isAtWord ot t = some w ∧ F_X9_isWord om t = some w := by
  rcases h with ⟨h7, h15, h8, ⟨h2, h10, hE, hb⟩, s, n, h1, h3, h4, h12, h5, h11, hD⟩ | h
  · have hk : (ot.1 3 = 1 ∧ om.1 13 = 1) ∨ (ot.1 3 ≠ 1 ∧ om.1 13 ≠ 1) := by
      rcases hD with d | d | d | d | d
      · rw [d.1, d.2]; exact Or.inr ⟨by decide, by decide⟩
      · exact Or.inl d
      · rw [d.1, d.2.1]; exact Or.inr ⟨by decide, by decide⟩
      · rw [d.1, d.2.1]; exact Or.inr ⟨by decide, by decide⟩
      · rw [d.1, d.2.1]; exact Or.inr ⟨by decide, by decide⟩
    have hl := z_len t
    simp only [F_X6_isAtWord, F_X9_isWord, h7, h15, if_true, h4, h12, h5, h11, z_sub h1]
    rcases hk with ⟨k1, k2⟩ | ⟨k1, k2⟩
    · rw [if_pos k1, if_pos k2]
      by_cases q : n - s = rx_len.getD t 0
      · rw [if_pos (by rw [q]), if_pos (by rw [q])]
        generalize hL : rx_len.getD t 0 = L at hl q ⊢
        have hch : ∀ k : Nat, k < L → rx_chr t (nI k) = some ((rx_byt.getD t []).getD k 0) := by
          intro k hk
          unfold rx_chr
          rw [nI_clamp (by omega), hL, if_pos ⟨nI_pos' (by omega), hk⟩]
        obtain ⟨m, m1, m2, m3, m4⟩ := z_first (p := fun k => ot.2 0 (s + k) ≠ (rx_byt.getD t []).getD k 0) (Nat.zero_le L)
        refine ⟨if m = L then 1 else 0, by split <;> simp, ?_, ?_⟩
        · have hh := z_run (L := fun fu k => F_X6_isAtWord_35 ot t fu (nI k)) (r := some (if m = L then 1 else 0)) m1 (by
            intro fu k k1 k2
            show F_X6_isAtWord_35 ot t (fu + 1) (nI k) = F_X6_isAtWord_35 ot t fu (nI (k + 1))
            simp only [F_X6_isAtWord_35, hL, h4, nI_add, hch k (by omega), z_bsN]
            rw [z_ig (by omega) (by omega), z_at (by omega) (by omega), if_pos (Decidable.not_not.mp (m3 k k1 k2)), nI_1]) (by
            intro fu
            show F_X6_isAtWord_35 ot t (fu + 1) (nI m) = _
            simp only [F_X6_isAtWord_35, hL]
            by_cases r : m = L
            · rw [z_il (by omega) (by omega), if_pos r]
            · rw [z_ig (by omega) (by omega), h4, nI_add, hch m (by omega), z_bsN, z_at (by omega) (by omega), if_neg (m4 (by omega)), if_neg r]) (fu := 100000) (by omega)
          exact hh
        · have hh := z_run (L := fun fu k => F_X9_isWord_35 om t fu (nI k)) (r := some (if m = L then 1 else 0)) m1 (by
            intro fu k k1 k2
            show F_X9_isWord_35 om t (fu + 1) (nI k) = F_X9_isWord_35 om t fu (nI (k + 1))
            simp only [F_X9_isWord_35, hL, h12, nI_add, hch k (by omega)]
            rw [z_ig (by omega) (by omega), z_ald (by omega) (by omega)]
            simp only [z_bsN]
            rw [if_pos (by rw [← hb _ (by omega)]; exact Decidable.not_not.mp (m3 k k1 k2)), nI_1]) (by
            intro fu
            show F_X9_isWord_35 om t (fu + 1) (nI m) = _
            simp only [F_X9_isWord_35, hL]
            by_cases r : m = L
            · rw [z_il (by omega) (by omega), if_pos r]
            · rw [z_ig (by omega) (by omega), h12, nI_add, z_ald (by omega) (by omega), z_bsN, hch m (by omega), z_bsN, if_neg (by rw [← hb _ (by omega)]; exact m4 (by omega)), if_neg r]) (fu := 100000) (by omega)
          exact hh
      · have q2 : ¬ (nI (n - s) : Int32) = nI (rx_len.getD t 0) := fun e => q ((nI_eq (by omega) (by omega)).mp e)
        rw [if_neg q2, if_neg q2]
        exact ⟨0, Or.inl rfl, rfl, rfl⟩
    · rw [if_neg k1, if_neg k2]
      exact ⟨0, Or.inl rfl, rfl, rfl⟩
  · refine ⟨0, Or.inl rfl, ?_, ?_⟩
    · simp only [F_X6_isAtWord]
      rw [if_neg h.1]
    · simp only [F_X9_isWord]
      rw [if_neg (h.2.1 ▸ h.1)]
theorem FX.is (h : FX ot om) (t : Nat) : F_X6_isAtWord ot t = some 0 ∧ F_X9_isWord om t = some 0 := by
  refine ⟨?_, ?_⟩
  · simp only [F_X6_isAtWord]
    rw [if_neg h.1]
  · simp only [F_X9_isWord]
    rw [if_neg (h.2.1 ▸ h.1)]
theorem FX.w (h : FX ot om) : ¬ om.1 15 = 0 := h.2.1 ▸ h.1
theorem T_word2 (h : T2 E ot om) (t : Nat) : ∃ ot2 om2 : ob, F_X6_takeWord ot t = some ot2 ∧ F_X9_mustWord om t = some om2 ∧ T2 E ot2 om2 ∧ tf ot ot2 ∧ mf om om2 := by
  obtain ⟨w, hw, i1, i2⟩ := T_is h t
  simp only [F_X6_takeWord, F_X9_mustWord, i1, i2, z_bsN]
  rcases h with h | h
  · by_cases q : w = 0
    · obtain ⟨ot2, om2, f1, f2, f3, f4, f5⟩ := h.fail (c := 1) (by decide)
      rw [if_pos q, if_pos q, f1, f2]
      simp only [z_bsN]
      rw [if_neg f3.w]
      exact ⟨_, _, rfl, rfl, Or.inr f3, f4, f5⟩
    · obtain ⟨ot2, om2, f1, f2, f3, f4, f5⟩ := h.next
      rw [if_neg q, if_neg q, f1]
      simp only [z_bsN]
      rw [if_pos h.2.1, f2]
      exact ⟨_, _, rfl, rfl, Or.inl f3, f4, f5⟩
  · have e := (h.is t).1
    rw [i1] at e
    have q : w = 0 := Option.some.inj e
    rw [if_pos q, if_pos q, h.failC, h.failM]
    simp only [z_bsN]
    rw [if_neg h.w]
    exact ⟨_, _, rfl, rfl, Or.inr h, tf.refl, mf.refl⟩
theorem T_semi (h : T2 E ot om) : ∃ ot2 om2 : ob, F_X6_takeSemicolon ot = some ot2 ∧ F_X9_semicolon om = some om2 ∧ T2 E ot2 om2 ∧ tf ot ot2 ∧ mf om om2 := by
  simp only [F_X6_takeSemicolon, F_X9_semicolon]
  rcases h with h | h
  · have hh := h
    obtain ⟨h7, h15, h8, ⟨h2, h10, hE, hb⟩, s, n, h1, h3, h4, h12, h5, h11, hD⟩ := hh
    have good : (ot.1 3 = 3 ∧ om.1 13 = 3 ∧ s < E ∧ om.2 8 s = 59) ∨ (ot.1 3 ≠ 3 ∧ (om.1 13 ≠ 3 ∨ (om.1 13 = 3 ∧ s < E ∧ om.2 8 s ≠ 59))) := by
      rcases hD with d | d | d | d | d
      · rw [d.1, d.2]; exact Or.inr ⟨by decide, Or.inl (by decide)⟩
      · rw [d.1, d.2]; exact Or.inr ⟨by decide, Or.inl (by decide)⟩
      · rw [d.1, d.2.1]; exact Or.inr ⟨by decide, Or.inl (by decide)⟩
      · exact Or.inl d
      · rw [d.1]; exact Or.inr ⟨by decide, Or.inr d.2⟩
    rcases good with ⟨k1, k2, k3, k4⟩ | ⟨k1, k2⟩
    · obtain ⟨ot2, om2, f1, f2, f3, f4, f5⟩ := h.next
      rw [if_pos k1, if_pos k2, f1, h12, z_ald (by omega) (by omega)]
      simp only [z_bsN]
      rw [if_pos k4]
      simp only [z_bsN]
      rw [if_pos h15, f2]
      exact ⟨_, _, rfl, rfl, Or.inl f3, f4, f5⟩
    · obtain ⟨ot2, om2, f1, f2, f3, f4, f5⟩ := h.fail (c := 1) (by decide)
      refine ⟨ot2, om2, by rw [if_neg k1, f1]; rfl, ?_, Or.inr f3, f4, f5⟩
      rcases k2 with k2 | ⟨k2, k3, k4⟩
      · rw [if_neg k2, f2]
        simp only [z_bsN]
        rw [if_neg f3.w]
      · rw [if_pos k2, h12, z_ald (by omega) (by omega)]
        simp only [z_bsN]
        rw [if_neg k4, f2]
        simp only [z_bsN]
        rw [if_neg f3.w]
  · refine ⟨ot, om, ?_, ?_, Or.inr h, tf.refl, mf.refl⟩
    · rw [h.failC, h.advC]
      split <;> rfl
    · by_cases k : om.1 13 = 3
      · obtain ⟨s, hs, e⟩ := h.2.2.2 k
        rw [if_pos k, e, z_ald (by omega) (by omega)]
        simp only [z_bsN, h.failM]
        by_cases r : om.2 8 s = 59
        · rw [if_pos r]
          simp only [z_bsN]
          rw [if_neg h.w]
        · rw [if_neg r]
          simp only [z_bsN]
          rw [if_neg h.w]
      · rw [if_neg k, h.failM]
        simp only [z_bsN]
        rw [if_neg h.w]
theorem T_int (h : T2 E ot om) {lo hi lo2 hi2 : Int32} (hlh : ot.1 7 = 0 → lo = lo2 ∧ hi = hi2 ∧ hi < 1000) : ∃ (v w : Int32) (ot2 om2 : ob), F_X6_takeNumber ot lo hi = some (v, ot2) ∧ F_X9_number0 om lo2 hi2 = some (w, om2) ∧ T2 E ot2 om2 ∧ (ot2.1 7 = 0 → ot.1 7 = 0 ∧ v = w ∧ lo ≤ v ∧ v ≤ hi) ∧ tf ot ot2 ∧ mf om om2 := by
  simp only [F_X6_takeNumber, F_X9_number0, z_leN]
  rcases h with h | h
  · obtain ⟨rfl, rfl, h1000⟩ := hlh h.1
    have hh := h
    obtain ⟨h7, h15, h8, ⟨h2, h10, hE, hb⟩, s, n, h1, h3, h4, h12, h5, h11, hD⟩ := hh
    have good : (ot.1 3 = 2 ∧ om.1 13 = 2 ∧ ∃ v : Nat, v < 100000000 ∧ om.1 14 = nI v ∧ ot.1 6 = nI (min 1000 v)) ∨ (ot.1 3 ≠ 2 ∧ om.1 13 ≠ 2) := by
      rcases hD with d | d | d | d | d
      · rw [d.1, d.2]; exact Or.inr ⟨by decide, by decide⟩
      · rw [d.1, d.2]; exact Or.inr ⟨by decide, by decide⟩
      · exact Or.inl d
      · rw [d.1, d.2.1]; exact Or.inr ⟨by decide, by decide⟩
      · rw [d.1, d.2.1]; exact Or.inr ⟨by decide, by decide⟩
    rcases good with ⟨k1, k2, v, hv, e1, e2⟩ | ⟨k1, k2⟩
    · rw [if_pos k1, if_pos k2, M_in]
      simp only [z_bsN]
      by_cases q : lo ≤ om.1 14 ∧ om.1 14 ≤ hi
      · have hvl : v < 1000 := by
          have := Int32.lt_of_le_of_lt q.2 h1000
          rw [e1, show (1000 : Int32) = nI 1000 from rfl, nI_ltI (by omega) (by omega)] at this
          exact this
        have e3 : ot.1 6 = om.1 14 := by rw [e1, e2, Nat.min_eq_right (by omega)]
        obtain ⟨ot2, om2, f1, f2, f3, f4, f5⟩ := h.next
        refine ⟨om.1 14, om.1 14, ot2, om2, ?_, ?_, Or.inl f3, fun _ => ⟨h7, rfl, q.1, q.2⟩, f4, f5⟩
        · rw [e3, if_neg (Int32.not_lt.mpr q.1), if_pos q.2, f1]; rfl
        · rw [if_pos q, if_neg (by decide)]
          simp only [z_bsN]
          rw [if_pos h15, f2]; rfl
      · obtain ⟨ot2, om2, f1, f2, f3, f4, f5⟩ := h.fail (c := 2) (by decide)
        refine ⟨ot.1 6, lo, ot2, om2, ?_, ?_, Or.inr f3, fun r => absurd r f3.1, f4, f5⟩
        · by_cases r : ot.1 6 < lo
          · rw [if_pos r, f1]; rfl
          · rw [if_neg r]
            by_cases r2 : ot.1 6 ≤ hi
            · exfalso
              have hvl : min 1000 v < 1000 := by
                have := Int32.lt_of_le_of_lt r2 h1000
                rw [e2, show (1000 : Int32) = nI 1000 from rfl, nI_ltI (by omega) (by omega)] at this
                exact this
              have e3 : ot.1 6 = om.1 14 := by rw [e1, e2, Nat.min_eq_right (by omega)]
              exact q ⟨e3 ▸ Int32.not_lt.mp r, e3 ▸ r2⟩
            · rw [if_neg r2, f1]; rfl
        · rw [if_neg q, if_pos rfl, f2]
          simp only [z_bsN]
          rw [if_neg f3.w]
    · obtain ⟨ot2, om2, f1, f2, f3, f4, f5⟩ := h.fail (c := 1) (by decide)
      refine ⟨ot.1 6, lo, ot2, om2, ?_, ?_, Or.inr f3, fun r => absurd r f3.1, f4, f5⟩
      · rw [if_neg k1, f1]; rfl
      · rw [if_neg k2, f2]
        simp only [z_bsN]
        rw [if_neg f3.w]
  · refine ⟨ot.1 6, lo2, ot, om, ?_, ?_, Or.inr h, fun r => absurd r h.1, tf.refl, mf.refl⟩
    · rw [h.failC, h.failC, h.advC]
      simp only [z_bsN]
      split
      · split
        · rfl
        · split <;> rfl
      · rfl
    · rw [h.failM, h.failM, M_in]
      simp only [z_bsN]
      by_cases k : om.1 13 = 2
      · rw [if_pos k]
        by_cases r : lo2 ≤ om.1 14 ∧ om.1 14 ≤ hi2
        · rw [if_pos r, if_neg (by decide)]
          simp only [z_bsN]
          rw [if_neg h.w]
        · rw [if_neg r, if_pos rfl]
          simp only [z_bsN]
          rw [if_neg h.w]
      · rw [if_neg k]
        simp only [z_bsN]
        rw [if_neg h.w]
/-- one of two words -/
theorem T_either (h : TX E ot om) (t1 t2 : Nat) : ∃ (w1 w2 : Int32), (w1 = 0 ∨ w1 = 1) ∧ (w2 = 0 ∨ w2 = 1) ∧ F_X9_isWord om t1 = some w1 ∧ F_X9_isWord om t2 = some w2 ∧ F_X6_isAtWord ot t1 = some w1 ∧ F_X6_isAtWord ot t2 = some w2 ∧ ((w1 = 0 ∧ w2 = 0 ∧ ∃ ot2 om2 : ob, F_X6_takeEither ot t1 t2 = some (0, ot2) ∧ F_X9_errs om 1 = some om2 ∧ FX ot2 om2 ∧ tf ot ot2 ∧ mf om om2) ∨ ((w1 = 1 ∨ w2 = 1) ∧ ∃ ot2 om2 : ob, F_X6_takeEither ot t1 t2 = some (w2, ot2) ∧ F_X9_next om = some om2 ∧ TX E ot2 om2 ∧ tf ot ot2 ∧ mf om om2)) := by
  obtain ⟨w1, hw1, i1, i2⟩ := T_is (Or.inl h) t1
  obtain ⟨w2, hw2, j1, j2⟩ := T_is (Or.inl h) t2
  refine ⟨w1, w2, hw1, hw2, i2, j2, i1, j1, ?_⟩
  obtain ⟨ot2, om2, f1, f2, f3, f4, f5⟩ := h.fail (c := 1) (by decide)
  obtain ⟨ot3, om3, g1, g2, g3, g4, g5⟩ := h.next
  simp only [F_X6_takeEither, i1, j1, z_bsN, f1, g1]
  rcases hw2 with rfl | rfl
  · rcases hw1 with rfl | rfl
    · exact Or.inl ⟨rfl, rfl, ot2, om2, rfl, f2, f3, f4, f5⟩
    · exact Or.inr ⟨Or.inl rfl, ot3, om3, rfl, g2, g3, g4, g5⟩
  · exact Or.inr ⟨Or.inr rfl, ot3, om3, rfl, g2, g3, g4, g5⟩
theorem FX.either (h : FX ot om) (t1 t2 : Nat) : F_X6_takeEither ot t1 t2 = some (0, ot) := by
  simp only [F_X6_takeEither, (h.is t1).1, (h.is t2).1, z_bsN, h.failC]
  rfl
end WORDS
