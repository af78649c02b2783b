/-! More calls that only read. -/
section STEPSC
variable {j : Nat} {st : lst}
theorem S_7 (h : Inv j st) (hj : j < 512) (a1 : Int32) : ∃ st2 : lst, F_step_7 st a1 = some st2 ∧ Inv (j + 1) st2 := by
  have h0 := h
  obtain ⟨P, B, hX, ⟨⟨qw, qe, hR⟩, hH, hN⟩, hO⟩ := h
  have hR : RPos P B (50000 * j) st.2.2.2.1 st.2.2.2.2.1 st.2.2.2.2.2.1 st.2.2.2.2.2.2.1 (st.2.2.2.2.2.2.2.2.2.2.2.2.2.2.2.2.1.2 1) qw qe := hR
  obtain ⟨v, e1, e2⟩ := X_groundCoins (oB := st.1) hR 0
  obtain ⟨v2, f1, f2⟩ := X_groundCoins (oB := st.1) hR 1
  refine ⟨_, ?_, h0.rd hj 0 st.2.2.2.2.2.2.2.2.2.2.2.2.2.2.2.2.2⟩
  by_cases q : a1 = 0
  · simp only [F_step_7, F_case_7, q, if_true, e1, e2, z_bsN]
  · simp only [F_step_7, F_case_7, q, if_false, f1, f2, z_bsN, if_true]
theorem S_10 (h : Inv j st) (hj : j < 512) (a1 : Int32) : ∃ st2 : lst, F_step_10 st a1 = some st2 ∧ Inv (j + 1) st2 := by
  have h0 := h
  obtain ⟨P, B, hX, ⟨⟨qw, qe, hR⟩, hH, hN⟩, hO⟩ := h
  have hR : RPos P B (50000 * j) st.2.2.2.1 st.2.2.2.2.1 st.2.2.2.2.2.1 st.2.2.2.2.2.2.1 (st.2.2.2.2.2.2.2.2.2.2.2.2.2.2.2.2.1.2 1) qw qe := hR
  obtain ⟨v, e1, e2⟩ := X_bankCount (oB := st.1) hR 0
  obtain ⟨v2, f1, f2⟩ := X_bankCount (oB := st.1) hR 1
  refine ⟨_, ?_, h0.rd hj 0 st.2.2.2.2.2.2.2.2.2.2.2.2.2.2.2.2.2⟩
  by_cases q : a1 = 0
  · simp only [F_step_10, F_case_10, q, if_true, e1, e2, z_bsN]
  · simp only [F_step_10, F_case_10, q, if_false, f1, f2, z_bsN, if_true]
theorem S_34 (h : Inv j st) (hj : j < 512) (a1 : Int32) : ∃ st2 : lst, F_step_34 st a1 = some st2 ∧ Inv (j + 1) st2 := by
  have h0 := h
  obtain ⟨P, B, hX, ⟨⟨qw, qe, hR⟩, hH, hN⟩, hO⟩ := h
  have hR : RPos P B (50000 * j) st.2.2.2.1 st.2.2.2.2.1 st.2.2.2.2.2.1 st.2.2.2.2.2.2.1 (st.2.2.2.2.2.2.2.2.2.2.2.2.2.2.2.2.1.2 1) qw qe := hR
  obtain ⟨v, e1, e2⟩ := X_qlen (oB := st.1) hR 0
  obtain ⟨v2, f1, f2⟩ := X_qlen (oB := st.1) hR 1
  refine ⟨_, ?_, h0.rd hj 0 st.2.2.2.2.2.2.2.2.2.2.2.2.2.2.2.2.2⟩
  by_cases q : a1 = 0
  · simp only [F_step_34, F_case_34, q, if_true, e1, e2, z_bsN]
  · simp only [F_step_34, F_case_34, q, if_false, f1, f2, z_bsN, if_true]
theorem S_35 (h : Inv j st) (hj : j < 512) (a1 a2 : Int32) : ∃ st2 : lst, F_step_35 st a1 a2 = some st2 ∧ Inv (j + 1) st2 := by
  have h0 := h
  obtain ⟨P, B, hX, ⟨⟨qw, qe, hR⟩, hH, hN⟩, hO⟩ := h
  have hR : RPos P B (50000 * j) st.2.2.2.1 st.2.2.2.2.1 st.2.2.2.2.2.1 st.2.2.2.2.2.2.1 (st.2.2.2.2.2.2.2.2.2.2.2.2.2.2.2.2.1.2 1) qw qe := hR
  obtain ⟨v, e1, e2⟩ := X_queued (oB := st.1) hR 0 a2
  obtain ⟨v2, f1, f2⟩ := X_queued (oB := st.1) hR 1 a2
  refine ⟨_, ?_, h0.rd hj 0 st.2.2.2.2.2.2.2.2.2.2.2.2.2.2.2.2.2⟩
  by_cases q : a1 = 0
  · simp only [F_step_35, F_case_35, q, if_true, e1, e2, z_bsN]
  · simp only [F_step_35, F_case_35, q, if_false, f1, f2, z_bsN, if_true]
theorem S_2 (h : Inv j st) (hj : j < 512) : ∃ st2 : lst, F_step_2 st = some st2 ∧ Inv (j + 1) st2 := by
  have h0 := h
  obtain ⟨P, B, ⟨S, _, _, _, h7, h8, _⟩, hG, hO⟩ := h
  refine ⟨_, ?_, h0.rd hj 0 st.2.2.2.2.2.2.2.2.2.2.2.2.2.2.2.2.2⟩
  simp only [F_step_2, F_case_2, F_X8_errorCode, F_X9_errorCode, z_leN, z_bsN, z_un (show (15 : Nat) ≠ 0 by omega), h7, if_true]
theorem S_3 (h : Inv j st) (hj : j < 512) : ∃ st2 : lst, F_step_3 st = some st2 ∧ Inv (j + 1) st2 := by
  have h0 := h
  obtain ⟨P, B, ⟨S, _, _, _, h7, h8, _⟩, hG, hO⟩ := h
  refine ⟨_, ?_, h0.rd hj 0 st.2.2.2.2.2.2.2.2.2.2.2.2.2.2.2.2.2⟩
  simp only [F_step_3, F_case_3, F_X8_errorOffset, F_X9_errorOffset, z_leN, z_bsN, z_un (show (16 : Nat) ≠ 0 by omega), h8, if_true]
theorem S_58 (h : Inv j st) (hj : j < 512) : ∃ st2 : lst, F_step_58 st = some st2 ∧ Inv (j + 1) st2 := by
  have h0 := h
  obtain ⟨P, B, hX, ⟨hE, ⟨c, n, _, _, h3, _, h5, _⟩, hN⟩, hO⟩ := h
  refine ⟨_, ?_, h0.rd hj 0 st.2.2.2.2.2.2.2.2.2.2.2.2.2.2.2.2.2⟩
  simp only [F_step_58, F_case_58, F_X8_undoableCount, F_X9_undoableCount, z_leN, z_bsN, z_un (show (6 : Nat) ≠ 0 by omega), h3, h5, if_true]
theorem z_ccc {α : Type} {c : Prop} [Decidable c] {a : Option α} : (if c then a else if c then none else if c then none else a) = a := by
  by_cases q : c
  · rw [if_pos q]
  · rw [if_neg q, if_neg q, if_neg q]
theorem S_27 (h : Inv j st) (hj : j < 512) : ∃ st2 : lst, F_step_27 st = some st2 ∧ Inv (j + 1) st2 := by
  have h0 := h
  obtain ⟨P, B, hX, ⟨⟨qw, qe, hR⟩, hH, hN⟩, hO⟩ := h
  have hR : RPos P B (50000 * j) st.2.2.2.1 st.2.2.2.2.1 st.2.2.2.2.2.1 st.2.2.2.2.2.2.1 (st.2.2.2.2.2.2.2.2.2.2.2.2.2.2.2.2.1.2 1) qw qe := hR
  obtain ⟨v, e1, e2⟩ := X_mean (oB := st.1) hR
  refine ⟨_, ?_, h0.rd hj 0 st.2.2.2.2.2.2.2.2.2.2.2.2.2.2.2.2.2⟩
  simp only [F_step_27, F_case_27, e1, e2, z_bsN, z_ccc]
theorem S_33 (h : Inv j st) (hj : j < 512) : ∃ st2 : lst, F_step_33 st = some st2 ∧ Inv (j + 1) st2 := by
  have h0 := h
  obtain ⟨P, B, hX, ⟨⟨qw, qe, hR⟩, hH, hN⟩, hO⟩ := h
  have hR : RPos P B (50000 * j) st.2.2.2.1 st.2.2.2.2.1 st.2.2.2.2.2.1 st.2.2.2.2.2.2.1 (st.2.2.2.2.2.2.2.2.2.2.2.2.2.2.2.2.1.2 1) qw qe := hR
  obtain ⟨v, w, e1, e2, e3⟩ := X_share (oB := st.1) hR
  refine ⟨_, ?_, h0.rd hj 0 st.2.2.2.2.2.2.2.2.2.2.2.2.2.2.2.2.2⟩
  simp only [F_step_33, F_case_33, e1, e2, e3, z_bsN, z_ccc]
end STEPSC
