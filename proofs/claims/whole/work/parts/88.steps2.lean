/-! The calls that answer yes or no; those that ask for a king. -/
section STEPSB
variable {j : Nat} {st : lst}
theorem z_n20 : ((2 : Int32) = 0) = False := by decide
theorem z_n21 : ((2 : Int32) = 1) = False := by decide
theorem z_n12 : ((1 : Int32) = 2) = False := by decide
theorem S_11 (h : Inv j st) (hj : j < 512) (a1 : Int32) : ∃ st2 : lst, F_step_11 st a1 = some st2 ∧ Inv (j + 1) st2 := by
  have h0 := h
  obtain ⟨P, B, hX, ⟨⟨qw, qe, hR⟩, hH, hN⟩, hO⟩ := h
  have hR : RPos P B (50000 * j) st.2.2.2.1 st.2.2.2.2.1 st.2.2.2.2.2.1 st.2.2.2.2.2.2.1 (st.2.2.2.2.2.2.2.2.2.2.2.2.2.2.2.2.1.2 1) qw qe := hR
  rcases X_isKing (oB := st.1) hR a1 with ⟨v, e1, e2⟩ | ⟨b, e1, e2⟩
  · by_cases q : v = 0
    · refine ⟨_, ?_, h0.rd hj 0 (vp_updL st.2.2.2.2.2.2.2.2.2.2.2.2.2.2.2.2.2 0 0)⟩
      simp only [F_step_11, F_case_11, F_L_isKing, F_X9_thrown, e1, e2, z_bsN, z_leN, if_true, z_us, q, z_ul, z_lg]
    · refine ⟨_, ?_, h0.rd hj 0 (vp_updL st.2.2.2.2.2.2.2.2.2.2.2.2.2.2.2.2.2 0 1)⟩
      simp only [F_step_11, F_case_11, F_L_isKing, F_X9_thrown, e1, e2, z_bsN, z_leN, if_true, z_us, q, if_false, z_ul, z_lg]
  · refine ⟨_, ?_, h0.rd hj 1 st.2.2.2.2.2.2.2.2.2.2.2.2.2.2.2.2.2⟩
    simp only [F_step_11, F_case_11, F_L_isKing, F_X9_thrown, e1, e2, z_bsN, z_leN, if_true, z_us, z_n10, if_false]
theorem S_12 (h : Inv j st) (hj : j < 512) (a1 : Int32) : ∃ st2 : lst, F_step_12 st a1 = some st2 ∧ Inv (j + 1) st2 := by
  have h0 := h
  obtain ⟨P, B, hX, ⟨⟨qw, qe, hR⟩, hH, hN⟩, hO⟩ := h
  have hR : RPos P B (50000 * j) st.2.2.2.1 st.2.2.2.2.1 st.2.2.2.2.2.1 st.2.2.2.2.2.2.1 (st.2.2.2.2.2.2.2.2.2.2.2.2.2.2.2.2.1.2 1) qw qe := hR
  rcases X_isEast (oB := st.1) hR a1 with ⟨v, e1, e2⟩ | ⟨b, e1, e2⟩
  · by_cases q : v = 0
    · refine ⟨_, ?_, h0.rd hj 0 (vp_updL st.2.2.2.2.2.2.2.2.2.2.2.2.2.2.2.2.2 0 0)⟩
      simp only [F_step_12, F_case_12, F_L_isEast, F_X9_thrown, e1, e2, z_bsN, z_leN, if_true, z_us, q, z_ul, z_lg]
    · refine ⟨_, ?_, h0.rd hj 0 (vp_updL st.2.2.2.2.2.2.2.2.2.2.2.2.2.2.2.2.2 0 1)⟩
      simp only [F_step_12, F_case_12, F_L_isEast, F_X9_thrown, e1, e2, z_bsN, z_leN, if_true, z_us, q, if_false, z_ul, z_lg]
  · refine ⟨_, ?_, h0.rd hj 1 st.2.2.2.2.2.2.2.2.2.2.2.2.2.2.2.2.2⟩
    simp only [F_step_12, F_case_12, F_L_isEast, F_X9_thrown, e1, e2, z_bsN, z_leN, if_true, z_us, z_n10, if_false]
theorem S_22 (h : Inv j st) (hj : j < 512) (a1 : Int32) : ∃ st2 : lst, F_step_22 st a1 = some st2 ∧ Inv (j + 1) st2 := by
  have h0 := h
  obtain ⟨P, B, hX, ⟨⟨qw, qe, hR⟩, hH, hN⟩, hO⟩ := h
  have hR : RPos P B (50000 * j) st.2.2.2.1 st.2.2.2.2.1 st.2.2.2.2.2.1 st.2.2.2.2.2.2.1 (st.2.2.2.2.2.2.2.2.2.2.2.2.2.2.2.2.1.2 1) qw qe := hR
  rcases X_isTaken (oB := st.1) hR a1 with ⟨v, e1, e2⟩ | ⟨b, e1, e2⟩
  · by_cases q : v = 0
    · refine ⟨_, ?_, h0.rd hj 0 (vp_updL st.2.2.2.2.2.2.2.2.2.2.2.2.2.2.2.2.2 0 0)⟩
      simp only [F_step_22, F_case_22, F_L_isTakenForKing, F_X9_thrown, e1, e2, z_bsN, z_leN, if_true, z_us, q, z_ul, z_lg]
    · refine ⟨_, ?_, h0.rd hj 0 (vp_updL st.2.2.2.2.2.2.2.2.2.2.2.2.2.2.2.2.2 0 1)⟩
      simp only [F_step_22, F_case_22, F_L_isTakenForKing, F_X9_thrown, e1, e2, z_bsN, z_leN, if_true, z_us, q, if_false, z_ul, z_lg]
  · refine ⟨_, ?_, h0.rd hj 1 st.2.2.2.2.2.2.2.2.2.2.2.2.2.2.2.2.2⟩
    simp only [F_step_22, F_case_22, F_L_isTakenForKing, F_X9_thrown, e1, e2, z_bsN, z_leN, if_true, z_us, z_n10, if_false]
theorem S_38 (h : Inv j st) (hj : j < 512) (a1 : Int32) : ∃ st2 : lst, F_step_38 st a1 = some st2 ∧ Inv (j + 1) st2 := by
  have h0 := h
  obtain ⟨P, B, hX, ⟨⟨qw, qe, hR⟩, hH, hN⟩, hO⟩ := h
  have hR : RPos P B (50000 * j) st.2.2.2.1 st.2.2.2.2.1 st.2.2.2.2.2.1 st.2.2.2.2.2.2.1 (st.2.2.2.2.2.2.2.2.2.2.2.2.2.2.2.2.1.2 1) qw qe := hR
  rcases X_isOpen (oB := st.1) hR a1 with ⟨v, e1, e2⟩ | ⟨b, e1, e2⟩
  · by_cases q : v = 0
    · refine ⟨_, ?_, h0.rd hj 0 (vp_updL st.2.2.2.2.2.2.2.2.2.2.2.2.2.2.2.2.2 0 0)⟩
      simp only [F_step_38, F_case_38, F_L_isOpen, F_X9_thrown, e1, e2, z_bsN, z_leN, if_true, z_us, q, z_ul, z_lg]
    · refine ⟨_, ?_, h0.rd hj 0 (vp_updL st.2.2.2.2.2.2.2.2.2.2.2.2.2.2.2.2.2 0 1)⟩
      simp only [F_step_38, F_case_38, F_L_isOpen, F_X9_thrown, e1, e2, z_bsN, z_leN, if_true, z_us, q, if_false, z_ul, z_lg]
  · refine ⟨_, ?_, h0.rd hj 1 st.2.2.2.2.2.2.2.2.2.2.2.2.2.2.2.2.2⟩
    simp only [F_step_38, F_case_38, F_L_isOpen, F_X9_thrown, e1, e2, z_bsN, z_leN, if_true, z_us, z_n10, if_false]
theorem S_29 (h : Inv j st) (hj : j < 512) (a1 : Int32) : ∃ st2 : lst, F_step_29 st a1 = some st2 ∧ Inv (j + 1) st2 := by
  have h0 := h
  obtain ⟨P, B, hX, ⟨⟨qw, qe, hR⟩, hH, hN⟩, hO⟩ := h
  have hR : RPos P B (50000 * j) st.2.2.2.1 st.2.2.2.2.1 st.2.2.2.2.2.1 st.2.2.2.2.2.2.1 (st.2.2.2.2.2.2.2.2.2.2.2.2.2.2.2.2.1.2 1) qw qe := hR
  rcases X_royalEast (oB := st.1) hR a1 with ⟨v, e1, e2⟩ | ⟨c, b, hc, e1, e2⟩
  · by_cases q : v = 0
    · refine ⟨_, ?_, h0.rd hj 0 (vp_updL st.2.2.2.2.2.2.2.2.2.2.2.2.2.2.2.2.2 0 0)⟩
      simp only [F_step_29, F_case_29, F_L_isRoyalCoinEast, F_X9_thrown, e1, e2, z_bsN, z_leN, if_true, z_us, q, z_ul, z_lg]
    · refine ⟨_, ?_, h0.rd hj 0 (vp_updL st.2.2.2.2.2.2.2.2.2.2.2.2.2.2.2.2.2 0 1)⟩
      simp only [F_step_29, F_case_29, F_L_isRoyalCoinEast, F_X9_thrown, e1, e2, z_bsN, z_leN, if_true, z_us, q, if_false, z_ul, z_lg]
  · rcases hc with rfl | rfl
    · refine ⟨_, ?_, h0.rd hj 1 st.2.2.2.2.2.2.2.2.2.2.2.2.2.2.2.2.2⟩
      simp only [F_step_29, F_case_29, F_L_isRoyalCoinEast, F_X9_thrown, e1, e2, z_bsN, z_leN, if_true, z_us, z_n10, if_false, id]
    · refine ⟨_, ?_, h0.rd hj 2 st.2.2.2.2.2.2.2.2.2.2.2.2.2.2.2.2.2⟩
      simp only [F_step_29, F_case_29, F_L_isRoyalCoinEast, F_X9_thrown, e1, e2, z_bsN, z_leN, if_true, z_us, z_n20, z_n21, if_false, id]
theorem S_30 (h : Inv j st) (hj : j < 512) (a1 : Int32) : ∃ st2 : lst, F_step_30 st a1 = some st2 ∧ Inv (j + 1) st2 := by
  have h0 := h
  obtain ⟨P, B, hX, ⟨⟨qw, qe, hR⟩, hH, hN⟩, hO⟩ := h
  have hR : RPos P B (50000 * j) st.2.2.2.1 st.2.2.2.2.1 st.2.2.2.2.2.1 st.2.2.2.2.2.2.1 (st.2.2.2.2.2.2.2.2.2.2.2.2.2.2.2.2.1.2 1) qw qe := hR
  rcases X_isCounted (oB := st.1) hR a1 with ⟨v, e1, e2⟩ | ⟨c, b, hc, e1, e2⟩
  · by_cases q : v = 0
    · refine ⟨_, ?_, h0.rd hj 0 (vp_updL st.2.2.2.2.2.2.2.2.2.2.2.2.2.2.2.2.2 0 0)⟩
      simp only [F_step_30, F_case_30, F_L_isCounted, F_X9_thrown, e1, e2, z_bsN, z_leN, if_true, z_us, q, z_ul, z_lg]
    · refine ⟨_, ?_, h0.rd hj 0 (vp_updL st.2.2.2.2.2.2.2.2.2.2.2.2.2.2.2.2.2 0 1)⟩
      simp only [F_step_30, F_case_30, F_L_isCounted, F_X9_thrown, e1, e2, z_bsN, z_leN, if_true, z_us, q, if_false, z_ul, z_lg]
  · rcases hc with rfl | rfl
    · refine ⟨_, ?_, h0.rd hj 1 st.2.2.2.2.2.2.2.2.2.2.2.2.2.2.2.2.2⟩
      simp only [F_step_30, F_case_30, F_L_isCounted, F_X9_thrown, e1, e2, z_bsN, z_leN, if_true, z_us, z_n10, if_false, id]
    · refine ⟨_, ?_, h0.rd hj 2 st.2.2.2.2.2.2.2.2.2.2.2.2.2.2.2.2.2⟩
      simp only [F_step_30, F_case_30, F_L_isCounted, F_X9_thrown, e1, e2, z_bsN, z_leN, if_true, z_us, z_n20, z_n21, if_false, id]
theorem S_28 (h : Inv j st) (hj : j < 512) (a1 : Int32) : ∃ st2 : lst, F_step_28 st a1 = some st2 ∧ Inv (j + 1) st2 := by
  have h0 := h
  obtain ⟨P, B, hX, ⟨⟨qw, qe, hR⟩, hH, hN⟩, hO⟩ := h
  have hR : RPos P B (50000 * j) st.2.2.2.1 st.2.2.2.2.1 st.2.2.2.2.2.1 st.2.2.2.2.2.2.1 (st.2.2.2.2.2.2.2.2.2.2.2.2.2.2.2.2.1.2 1) qw qe := hR
  rcases X_royalHolder (oB := st.1) hR a1 with ⟨v, e1, e2⟩ | ⟨c, b, hc, e1, e2⟩
  · refine ⟨_, ?_, h0.rd hj 0 (vp_updL st.2.2.2.2.2.2.2.2.2.2.2.2.2.2.2.2.2 0 v.toInt64)⟩
    simp only [F_step_28, F_case_28, F_L_royalHolder, F_X9_thrown, e1, e2, z_bsN, z_leN, if_true, z_us, z_ul, z_lg]
  · rcases hc with rfl | rfl
    · refine ⟨_, ?_, h0.rd hj 1 st.2.2.2.2.2.2.2.2.2.2.2.2.2.2.2.2.2⟩
      simp only [F_step_28, F_case_28, F_L_royalHolder, F_X9_thrown, e1, e2, z_bsN, z_leN, if_true, z_us, z_n10, if_false, id]
    · refine ⟨_, ?_, h0.rd hj 2 st.2.2.2.2.2.2.2.2.2.2.2.2.2.2.2.2.2⟩
      simp only [F_step_28, F_case_28, F_L_royalHolder, F_X9_thrown, e1, e2, z_bsN, z_leN, if_true, z_us, z_n20, z_n21, if_false, id]
theorem S_20 (h : Inv j st) (hj : j < 512) (a1 a2 : Int32) : ∃ st2 : lst, F_step_20 st a1 a2 = some st2 ∧ Inv (j + 1) st2 := by
  have h0 := h
  obtain ⟨P, B, hX, ⟨⟨qw, qe, hR⟩, hH, hN⟩, hO⟩ := h
  have hR : RPos P B (50000 * j) st.2.2.2.1 st.2.2.2.2.1 st.2.2.2.2.2.1 st.2.2.2.2.2.2.1 (st.2.2.2.2.2.2.2.2.2.2.2.2.2.2.2.2.1.2 1) qw qe := hR
  rcases X_bowTo (oB := st.1) hR a1 a2 with ⟨v, e1, e2⟩ | ⟨c, b, hc, e1, e2⟩
  · refine ⟨_, ?_, h0.rd hj 0 (vp_updL st.2.2.2.2.2.2.2.2.2.2.2.2.2.2.2.2.2 0 v.toInt64)⟩
    simp only [F_step_20, F_case_20, F_L_bowTo, F_X9_thrown, e1, e2, z_bsN, z_leN, if_true, z_us, z_ul, z_lg]
  · rcases hc with rfl | rfl
    · refine ⟨_, ?_, h0.rd hj 1 st.2.2.2.2.2.2.2.2.2.2.2.2.2.2.2.2.2⟩
      simp only [F_step_20, F_case_20, F_L_bowTo, F_X9_thrown, e1, e2, z_bsN, z_leN, if_true, z_us, z_n10, if_false, id]
    · refine ⟨_, ?_, h0.rd hj 2 st.2.2.2.2.2.2.2.2.2.2.2.2.2.2.2.2.2⟩
      simp only [F_step_20, F_case_20, F_L_bowTo, F_X9_thrown, e1, e2, z_bsN, z_leN, if_true, z_us, z_n20, z_n21, if_false, id]
end STEPSB
