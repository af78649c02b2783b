/-! The pieces taken from a text, class and model. -/
def TB (E : Nat) (ot om : ob) : Prop := ot.1 2 = nI E ∧ om.1 10 = nI E ∧ E ≤ 500 ∧ ∀ i : Nat, i < E → ot.2 0 i = om.2 8 i
def TD (E : Nat) (ot om : ob) (s : Nat) : Prop := (ot.1 3 = 0 ∧ om.1 13 = 0) ∨ (ot.1 3 = 1 ∧ om.1 13 = 1) ∨ (ot.1 3 = 2 ∧ om.1 13 = 2 ∧ ∃ v : Nat, v < 100000000 ∧ om.1 14 = nI v ∧ ot.1 6 = nI (min 1000 v)) ∨ (ot.1 3 = 3 ∧ om.1 13 = 3 ∧ s < E ∧ om.2 8 s = 59) ∨ (ot.1 3 = 4 ∧ om.1 13 = 3 ∧ s < E ∧ om.2 8 s ≠ 59)
def TK (E : Nat) (ot om : ob) : Prop := ∃ s n : Nat, s ≤ n ∧ n ≤ E ∧ ot.1 4 = nI s ∧ om.1 12 = nI s ∧ ot.1 5 = nI n ∧ om.1 11 = nI n ∧ TD E ot om s
def TX (E : Nat) (ot om : ob) : Prop := ot.1 7 = 0 ∧ om.1 15 = 0 ∧ ot.1 8 = om.1 16 ∧ TB E ot om ∧ TK E ot om
def FX (ot om : ob) : Prop := ot.1 7 ≠ 0 ∧ ot.1 7 = om.1 15 ∧ ot.1 8 = om.1 16 ∧ (om.1 13 = 3 → ∃ s : Nat, s < 500 ∧ om.1 12 = nI s)
def T2 (E : Nat) (ot om : ob) : Prop := TX E ot om ∨ FX ot om
def tf (ot ot2 : ob) : Prop := ot2.1 1 = ot.1 1 ∧ ot2.2 = ot.2
def mf (om om2 : ob) : Prop := (∀ i : Nat, i < 11 ∨ 16 < i → om2.1 i = om.1 i) ∧ om2.2 = om.2
section TAKE
variable {ot om ot2 om2 ot3 om3 : ob} {E n s : Nat}
theorem tf.refl : tf ot ot := ⟨rfl, rfl⟩
theorem mf.refl : mf om om := ⟨fun _ _ => rfl, rfl⟩
theorem tf.trans (h : tf ot ot2) (h2 : tf ot2 ot3) : tf ot ot3 := ⟨h2.1.trans h.1, h2.2.trans h.2⟩
theorem mf.trans (h : mf om om2) (h2 : mf om2 om3) : mf om om3 := ⟨fun i hi => (h2.1 i hi).trans (h.1 i hi), h2.2.trans h.2⟩
theorem T_next (h7 : ot.1 7 = 0) (h15 : om.1 15 = 0) (h8 : ot.1 8 = om.1 16) (hB : TB E ot om) (hn : n ≤ E) (h5 : ot.1 5 = nI n) (h11 : om.1 11 = nI n) : ∃ ot2 om2 : ob, F_X6_advance ot = some ot2 ∧ F_X9_next om = some om2 ∧ TX E ot2 om2 ∧ tf ot ot2 ∧ mf om om2 := by
  obtain ⟨h2, h10, hE, hb⟩ := hB
  obtain ⟨m, m1, m2, s1, s2⟩ := T_skip (ot := (upd ot.1 4 (ot.1 5), ot.2)) (om := om) (n := n) hE hn (by dsimp only; rw [z_un (by omega)]; exact h2) h10 hb (by dsimp only; rw [z_us]; exact h5) h11
  -- the places after the blanks
  have c2 : upd (upd (upd ot.1 4 (ot.1 5)) 4 (nI m)) 5 (nI m) 2 = nI E := by rw [z_un (by omega), z_un (by omega), z_un (by omega)]; exact h2
  have c4 : upd (upd (upd ot.1 4 (ot.1 5)) 4 (nI m)) 5 (nI m) 4 = nI m := by rw [z_un (by omega), z_us]
  have c5 : upd (upd (upd ot.1 4 (ot.1 5)) 4 (nI m)) 5 (nI m) 5 = nI m := by rw [z_us]
  have c7 : upd (upd (upd ot.1 4 (ot.1 5)) 4 (nI m)) 5 (nI m) 7 = 0 := by rw [z_un (by omega), z_un (by omega), z_un (by omega)]; exact h7
  have c8 : upd (upd (upd ot.1 4 (ot.1 5)) 4 (nI m)) 5 (nI m) 8 = ot.1 8 := by rw [z_un (by omega), z_un (by omega), z_un (by omega)]
  have c1 : upd (upd (upd ot.1 4 (ot.1 5)) 4 (nI m)) 5 (nI m) 1 = ot.1 1 := by rw [z_un (by omega), z_un (by omega), z_un (by omega)]
  have d10 : upd (upd om.1 11 (nI m)) 12 (nI m) 10 = nI E := by rw [z_un (by omega), z_un (by omega)]; exact h10
  have d11 : upd (upd om.1 11 (nI m)) 12 (nI m) 11 = nI m := by rw [z_un (by omega), z_us]
  have d12 : upd (upd om.1 11 (nI m)) 12 (nI m) 12 = nI m := by rw [z_us]
  have d15 : upd (upd om.1 11 (nI m)) 12 (nI m) 15 = 0 := by rw [z_un (by omega), z_un (by omega)]; exact h15
  have d16 : upd (upd om.1 11 (nI m)) 12 (nI m) 16 = om.1 16 := by rw [z_un (by omega), z_un (by omega)]
  have dF : ∀ i : Nat, i < 11 ∨ 16 < i → upd (upd om.1 11 (nI m)) 12 (nI m) i = om.1 i := fun i hi => by rw [z_un (by omega), z_un (by omega)]
  simp only [F_X6_advance, F_X9_next, z_leN, h7, if_true, s1, s2, z_bsN, z_us]
  generalize upd (upd (upd ot.1 4 (ot.1 5)) 4 (nI m)) 5 (nI m) = a at c1 c2 c4 c5 c7 c8 ⊢
  generalize upd (upd om.1 11 (nI m)) 12 (nI m) = b at d10 d11 d12 d15 d16 dF ⊢
  simp only [c4, c5, c2, d10, d11]
  by_cases q : m < E
  · have q1 : (nI m : Int32) < nI E := nI_lt q (by omega)
    rw [if_pos q1, if_pos q1]
    rw [z_at (by omega) (by omega), z_ald (by omega) (by omega), hb m (by omega)]
    simp only [z_bsN, C_ltr, M_ltr, C_dgt, M_dgt]
    by_cases r : 97 ≤ om.2 8 m ∧ om.2 8 m ≤ 122
    · rw [if_pos r, if_neg (by decide), if_neg (by decide)]
      obtain ⟨n2, n3, n4, w1, w2⟩ := T_word (ot := (upd a 3 1, ot.2)) (om := (b, om.2)) (n := m) (E := E) hE m2 (by dsimp only; rw [z_un (by omega)]; exact c2) d10 hb (by dsimp only; rw [z_un (by omega)]; exact c5) d11
      refine ⟨(upd (upd a 3 1) 5 (nI n2), ot.2), (upd (upd b 11 (nI n2)) 13 1, om.2), ?_, ?_, ⟨?_, ?_, ?_, ⟨?_, ?_, hE, hb⟩, ⟨m, n2, n3, n4, ?_, ?_, ?_, ?_, Or.inr (Or.inl ⟨?_, ?_⟩)⟩⟩, ⟨?_, rfl⟩, ⟨fun i hi => ?_, rfl⟩⟩
      · simp only [F_X6_scanWord, z_leN, w1, z_bsN]
      · simp only [w2, z_bsN]
      · dsimp only; rw [z_un (by omega), z_un (by omega)]; exact c7
      · dsimp only; rw [z_un (by omega), z_un (by omega)]; exact d15
      · dsimp only; rw [z_un (by omega), z_un (by omega), z_un (by omega), z_un (by omega), c8, d16]; exact h8
      · dsimp only; rw [z_un (by omega), z_un (by omega)]; exact c2
      · dsimp only; rw [z_un (by omega), z_un (by omega)]; exact d10
      · dsimp only; rw [z_un (by omega), z_un (by omega)]; exact c4
      · dsimp only; rw [z_un (by omega), z_un (by omega)]; exact d12
      · dsimp only; rw [z_us]
      · dsimp only; rw [z_un (by omega), z_us]
      · dsimp only; rw [z_un (by omega), z_us]
      · dsimp only; rw [z_us]
      · dsimp only; rw [z_un (by omega), z_un (by omega)]; exact c1
      · dsimp only; rw [z_un (by omega), z_un (by omega)]; exact dF i hi
    · rw [if_neg r, if_pos rfl, if_pos rfl]
      by_cases r2 : 48 ≤ om.2 8 m ∧ om.2 8 m ≤ 57
      · rw [if_pos r2, if_neg (by decide), if_neg (by decide)]
        obtain ⟨n2, v, n3, n4, hv, w1, w2⟩ := T_num (ot := (upd (upd a 3 2) 6 0, ot.2)) (om := (upd b 14 0, om.2)) (n := m) (E := E) hE m2 (by dsimp only; rw [z_un (by omega), z_un (by omega)]; exact c2) (by dsimp only; rw [z_un (by omega)]; exact d10) hb (by dsimp only; rw [z_un (by omega), z_un (by omega)]; exact c5) (by dsimp only; rw [z_un (by omega)]; exact d11) (by dsimp only; rw [z_us]) (by dsimp only; rw [z_us])
        refine ⟨(upd (upd (upd (upd a 3 2) 6 0) 6 (nI (min 1000 v))) 5 (nI n2), ot.2), (upd (upd (upd (upd b 14 0) 14 (nI v)) 11 (nI n2)) 13 2, om.2), ?_, ?_, ⟨?_, ?_, ?_, ⟨?_, ?_, hE, hb⟩, ⟨m, n2, n3, n4, ?_, ?_, ?_, ?_, Or.inr (Or.inr (Or.inl ⟨?_, ?_, v, hv, ?_, ?_⟩))⟩⟩, ⟨?_, rfl⟩, ⟨fun i hi => ?_, rfl⟩⟩
        · simp only [F_X6_scanNumber, z_leN, w1, z_bsN]
        · simp only [F_X9_readsNumber, z_leN, w2, z_bsN]
        · dsimp only; rw [z_un (by omega), z_un (by omega), z_un (by omega), z_un (by omega)]; exact c7
        · dsimp only; rw [z_un (by omega), z_un (by omega), z_un (by omega), z_un (by omega)]; exact d15
        · dsimp only; rw [z_un (by omega), z_un (by omega), z_un (by omega), z_un (by omega), z_un (by omega), z_un (by omega), z_un (by omega), z_un (by omega), c8, d16]; exact h8
        · dsimp only; rw [z_un (by omega), z_un (by omega), z_un (by omega), z_un (by omega)]; exact c2
        · dsimp only; rw [z_un (by omega), z_un (by omega), z_un (by omega), z_un (by omega)]; exact d10
        · dsimp only; rw [z_un (by omega), z_un (by omega), z_un (by omega), z_un (by omega)]; exact c4
        · dsimp only; rw [z_un (by omega), z_un (by omega), z_un (by omega), z_un (by omega)]; exact d12
        · dsimp only; rw [z_us]
        · dsimp only; rw [z_un (by omega), z_us]
        · dsimp only; rw [z_un (by omega), z_un (by omega), z_un (by omega), z_us]
        · dsimp only; rw [z_us]
        · dsimp only; rw [z_un (by omega), z_un (by omega), z_us]
        · dsimp only; rw [z_un (by omega), z_us]
        · dsimp only; rw [z_un (by omega), z_un (by omega), z_un (by omega), z_un (by omega)]; exact c1
        · dsimp only; rw [z_un (by omega), z_un (by omega), z_un (by omega), z_un (by omega)]; exact dF i hi
      · rw [if_neg r2, if_pos rfl, if_pos rfl]
        have e1 : (nI m : Int32) + 1 = nI (m + 1) := nI_1 m
        by_cases r3 : om.2 8 m = 59
        · rw [if_pos r3]
          refine ⟨(upd (upd a 3 3) 5 (nI (m + 1)), ot.2), (upd (upd b 13 3) 11 (nI (m + 1)), om.2), ?_, ?_, ⟨?_, ?_, ?_, ⟨?_, ?_, hE, hb⟩, ⟨m, m + 1, by omega, by omega, ?_, ?_, ?_, ?_, Or.inr (Or.inr (Or.inr (Or.inl ⟨?_, ?_, q, r3⟩)))⟩⟩, ⟨?_, rfl⟩, ⟨fun i hi => ?_, rfl⟩⟩
          · rw [z_un (by omega), c5, e1]
          · rw [z_un (by omega), d11, e1]
          · dsimp only; rw [z_un (by omega), z_un (by omega)]; exact c7
          · dsimp only; rw [z_un (by omega), z_un (by omega)]; exact d15
          · dsimp only; rw [z_un (by omega), z_un (by omega), z_un (by omega), z_un (by omega), c8, d16]; exact h8
          · dsimp only; rw [z_un (by omega), z_un (by omega)]; exact c2
          · dsimp only; rw [z_un (by omega), z_un (by omega)]; exact d10
          · dsimp only; rw [z_un (by omega), z_un (by omega)]; exact c4
          · dsimp only; rw [z_un (by omega), z_un (by omega)]; exact d12
          · dsimp only; rw [z_us]
          · dsimp only; rw [z_us]
          · dsimp only; rw [z_un (by omega), z_us]
          · dsimp only; rw [z_un (by omega), z_us]
          · dsimp only; rw [z_un (by omega), z_un (by omega)]; exact c1
          · dsimp only; rw [z_un (by omega), z_un (by omega)]; exact dF i hi
        · rw [if_neg r3]
          refine ⟨(upd (upd a 3 4) 5 (nI (m + 1)), ot.2), (upd (upd b 13 3) 11 (nI (m + 1)), om.2), ?_, ?_, ⟨?_, ?_, ?_, ⟨?_, ?_, hE, hb⟩, ⟨m, m + 1, by omega, by omega, ?_, ?_, ?_, ?_, Or.inr (Or.inr (Or.inr (Or.inr ⟨?_, ?_, q, r3⟩)))⟩⟩, ⟨?_, rfl⟩, ⟨fun i hi => ?_, rfl⟩⟩
          · rw [z_un (by omega), c5, e1]
          · rw [z_un (by omega), d11, e1]
          · dsimp only; rw [z_un (by omega), z_un (by omega)]; exact c7
          · dsimp only; rw [z_un (by omega), z_un (by omega)]; exact d15
          · dsimp only; rw [z_un (by omega), z_un (by omega), z_un (by omega), z_un (by omega), c8, d16]; exact h8
          · dsimp only; rw [z_un (by omega), z_un (by omega)]; exact c2
          · dsimp only; rw [z_un (by omega), z_un (by omega)]; exact d10
          · dsimp only; rw [z_un (by omega), z_un (by omega)]; exact c4
          · dsimp only; rw [z_un (by omega), z_un (by omega)]; exact d12
          · dsimp only; rw [z_us]
          · dsimp only; rw [z_us]
          · dsimp only; rw [z_un (by omega), z_us]
          · dsimp only; rw [z_un (by omega), z_us]
          · dsimp only; rw [z_un (by omega), z_un (by omega)]; exact c1
          · dsimp only; rw [z_un (by omega), z_un (by omega)]; exact dF i hi
  · have q1 : ¬ (nI m : Int32) < nI E := Int32.not_lt.mpr (nI_le (by omega) (by omega))
    rw [if_neg q1, if_neg q1]
    refine ⟨_, _, rfl, rfl, ⟨?_, ?_, ?_, ⟨?_, ?_, hE, hb⟩, ⟨m, m, Nat.le_refl _, m2, ?_, ?_, ?_, ?_, Or.inl ⟨?_, ?_⟩⟩⟩, ⟨?_, rfl⟩, ⟨fun i hi => ?_, rfl⟩⟩
    · dsimp only; rw [z_un (by omega)]; exact c7
    · dsimp only; rw [z_un (by omega)]; exact d15
    · dsimp only; rw [z_un (by omega), z_un (by omega), c8, d16]; exact h8
    · dsimp only; rw [z_un (by omega)]; exact c2
    · dsimp only; rw [z_un (by omega)]; exact d10
    · dsimp only; rw [z_un (by omega)]; exact c4
    · dsimp only; rw [z_un (by omega)]; exact d12
    · dsimp only; rw [z_un (by omega)]; exact c5
    · dsimp only; rw [z_un (by omega)]; exact d11
    · dsimp only; rw [z_us]
    · dsimp only; rw [z_us]
    · dsimp only; rw [z_un (by omega)]; exact c1
    · dsimp only; rw [z_un (by omega)]; exact dF i hi
theorem TX.next (h : TX E ot om) : ∃ ot2 om2 : ob, F_X6_advance ot = some ot2 ∧ F_X9_next om = some om2 ∧ TX E ot2 om2 ∧ tf ot ot2 ∧ mf om om2 := by
  obtain ⟨h7, h15, h8, hB, s, n, h1, h2, h3, h4, h5, h6, hD⟩ := h
  exact T_next h7 h15 h8 hB h2 h5 h6
/-- an error is told -/
theorem TX.fail (h : TX E ot om) {c : Int32} (hc : c ≠ 0) : ∃ ot2 om2 : ob, F_X6_fail ot c = some ot2 ∧ F_X9_errs om c = some om2 ∧ FX ot2 om2 ∧ tf ot ot2 ∧ mf om om2 := by
  obtain ⟨h7, h15, h8, ⟨_, _, hE, _⟩, s, n, h1, h2, h3, h4, h5, h6, hD⟩ := h
  refine ⟨(upd (upd ot.1 7 c) 8 (ot.1 4), ot.2), (upd (upd om.1 15 c) 16 (om.1 12), om.2), ?_, ?_, ⟨?_, ?_, ?_, fun q => ?_⟩, ⟨?_, rfl⟩, ⟨fun i hi => ?_, rfl⟩⟩
  · simp only [F_X6_fail, h7, if_true, z_leN]
    rw [z_un (by omega)]
  · simp only [F_X9_errs, h15, if_true, z_leN]
    rw [z_un (by omega)]
  · dsimp only; rw [z_un (by omega), z_us]; exact hc
  · dsimp only; rw [z_un (by omega), z_us, z_un (by omega), z_us]
  · dsimp only; rw [z_us, z_us, h3, h4]
  · dsimp only at q ⊢
    rw [z_un (by omega), z_un (by omega)] at q
    rw [z_un (by omega), z_un (by omega)]
    refine ⟨s, ?_, h4⟩
    rcases hD with d | d | d | d | d
    · rw [d.2] at q; exact absurd q (by decide)
    · rw [d.2] at q; exact absurd q (by decide)
    · rw [d.2.1] at q; exact absurd q (by decide)
    · omega
    · omega
  · dsimp only; rw [z_un (by omega), z_un (by omega)]
  · dsimp only; rw [z_un (by omega), z_un (by omega)]
theorem FX.failC (h : FX ot om) {c : Int32} : F_X6_fail ot c = some ot := by
  simp only [F_X6_fail]
  rw [if_neg h.1]
theorem FX.failM (h : FX ot om) {c : Int32} : F_X9_errs om c = some om := by
  simp only [F_X9_errs]
  rw [if_neg (h.2.1 ▸ h.1)]
theorem FX.advC (h : FX ot om) : F_X6_advance ot = some ot := by
  simp only [F_X6_advance]
  rw [if_neg h.1]
end TAKE
