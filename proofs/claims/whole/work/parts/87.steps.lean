/-! The law's rounds: the calls that only read. -/
section STEPS
variable {j : Nat} {st : lst}
theorem Inv.rd (h : Inv j st) (hj : j < 512) (v : Int32) (L2 : Nat → Int64) : Inv (j + 1) (st.1, st.2.1, st.2.2.1, st.2.2.2.1, st.2.2.2.2.1, st.2.2.2.2.2.1, st.2.2.2.2.2.2.1, st.2.2.2.2.2.2.2.1, st.2.2.2.2.2.2.2.2.1, st.2.2.2.2.2.2.2.2.2.1, st.2.2.2.2.2.2.2.2.2.2.1, st.2.2.2.2.2.2.2.2.2.2.2.1, st.2.2.2.2.2.2.2.2.2.2.2.2.1, st.2.2.2.2.2.2.2.2.2.2.2.2.2.1, st.2.2.2.2.2.2.2.2.2.2.2.2.2.2.1, st.2.2.2.2.2.2.2.2.2.2.2.2.2.2.2.1, (upd st.2.2.2.2.2.2.2.2.2.2.2.2.2.2.2.2.1.1 0 v, st.2.2.2.2.2.2.2.2.2.2.2.2.2.2.2.2.1.2), L2) := by
  obtain ⟨P, B, hX, hG, hO⟩ := h
  refine ⟨P, B, ?_, hG.h0.mono (by omega), ?_⟩
  · obtain ⟨S, h1, h2, h3, h4, h5, h6⟩ := hX
    exact ⟨S, h1, h2, (z_un (i := 0) (j := 9) (v := v) (by omega)).trans h3, h4.trans (z_un (i := 0) (j := 15) (v := v) (by omega)).symm, h5.trans (z_un (i := 0) (j := 16) (v := v) (by omega)).symm, h6⟩
  · obtain ⟨L, h1, h2, h3, h4⟩ := hO
    exact ⟨L, h1, h2, (z_un (i := 0) (j := 20) (v := v) (by omega)).trans h3, h4⟩
theorem z_lg (x : Int64) : lg_cmp x x = 0 := by
  unfold lg_cmp
  simp
theorem z_n10 : ((1 : Int32) = 0) = False := by decide
theorem z_ul {f : Nat → Int64} {k : Nat} {x : Int64} : vp_updL f k x k = x := by simp [vp_updL]
theorem S_4 (h : Inv j st) (hj : j < 512) : ∃ st2 : lst, F_step_4 st = some st2 ∧ Inv (j + 1) st2 := by
  have h0 := h
  obtain ⟨P, B, hX, ⟨⟨qw, qe, hR⟩, hH, hN⟩, hO⟩ := h
  have hR : RPos P B (50000 * j) st.2.2.2.1 st.2.2.2.2.1 st.2.2.2.2.2.1 st.2.2.2.2.2.2.1 (st.2.2.2.2.2.2.2.2.2.2.2.2.2.2.2.2.1.2 1) qw qe := hR
  obtain ⟨v, e1, e2⟩ := X_turn (oB := st.1) hR
  refine ⟨_, ?_, h0.rd hj 0 st.2.2.2.2.2.2.2.2.2.2.2.2.2.2.2.2.2⟩
  simp only [F_step_4, F_case_4, e1, e2, z_bsN, if_true]
theorem S_5 (h : Inv j st) (hj : j < 512) : ∃ st2 : lst, F_step_5 st = some st2 ∧ Inv (j + 1) st2 := by
  have h0 := h
  obtain ⟨P, B, hX, ⟨⟨qw, qe, hR⟩, hH, hN⟩, hO⟩ := h
  have hR : RPos P B (50000 * j) st.2.2.2.1 st.2.2.2.2.1 st.2.2.2.2.2.1 st.2.2.2.2.2.2.1 (st.2.2.2.2.2.2.2.2.2.2.2.2.2.2.2.2.1.2 1) qw qe := hR
  obtain ⟨v, e1, e2⟩ := X_limit (oB := st.1) hR
  refine ⟨_, ?_, h0.rd hj 0 st.2.2.2.2.2.2.2.2.2.2.2.2.2.2.2.2.2⟩
  simp only [F_step_5, F_case_5, e1, e2, z_bsN, if_true]
theorem S_6 (h : Inv j st) (hj : j < 512) : ∃ st2 : lst, F_step_6 st = some st2 ∧ Inv (j + 1) st2 := by
  have h0 := h
  obtain ⟨P, B, hX, ⟨⟨qw, qe, hR⟩, hH, hN⟩, hO⟩ := h
  have hR : RPos P B (50000 * j) st.2.2.2.1 st.2.2.2.2.1 st.2.2.2.2.2.1 st.2.2.2.2.2.2.1 (st.2.2.2.2.2.2.2.2.2.2.2.2.2.2.2.2.1.2 1) qw qe := hR
  obtain ⟨v, e1, e2⟩ := X_box (oB := st.1) hR
  refine ⟨_, ?_, h0.rd hj 0 st.2.2.2.2.2.2.2.2.2.2.2.2.2.2.2.2.2⟩
  simp only [F_step_6, F_case_6, e1, e2, z_bsN, if_true]
theorem S_8 (h : Inv j st) (hj : j < 512) : ∃ st2 : lst, F_step_8 st = some st2 ∧ Inv (j + 1) st2 := by
  have h0 := h
  obtain ⟨P, B, hX, ⟨⟨qw, qe, hR⟩, hH, hN⟩, hO⟩ := h
  have hR : RPos P B (50000 * j) st.2.2.2.1 st.2.2.2.2.1 st.2.2.2.2.2.1 st.2.2.2.2.2.2.1 (st.2.2.2.2.2.2.2.2.2.2.2.2.2.2.2.2.1.2 1) qw qe := hR
  obtain ⟨v, e1, e2⟩ := X_people (oB := st.1) hR
  refine ⟨_, ?_, h0.rd hj 0 st.2.2.2.2.2.2.2.2.2.2.2.2.2.2.2.2.2⟩
  simp only [F_step_8, F_case_8, e1, e2, z_bsN, if_true]
theorem S_9 (h : Inv j st) (hj : j < 512) : ∃ st2 : lst, F_step_9 st = some st2 ∧ Inv (j + 1) st2 := by
  have h0 := h
  obtain ⟨P, B, hX, ⟨⟨qw, qe, hR⟩, hH, hN⟩, hO⟩ := h
  have hR : RPos P B (50000 * j) st.2.2.2.1 st.2.2.2.2.1 st.2.2.2.2.2.1 st.2.2.2.2.2.2.1 (st.2.2.2.2.2.2.2.2.2.2.2.2.2.2.2.2.1.2 1) qw qe := hR
  obtain ⟨v, e1, e2⟩ := X_kings (oB := st.1) hR
  refine ⟨_, ?_, h0.rd hj 0 st.2.2.2.2.2.2.2.2.2.2.2.2.2.2.2.2.2⟩
  simp only [F_step_9, F_case_9, e1, e2, z_bsN, if_true]
theorem S_19 (h : Inv j st) (hj : j < 512) : ∃ st2 : lst, F_step_19 st = some st2 ∧ Inv (j + 1) st2 := by
  have h0 := h
  obtain ⟨P, B, hX, ⟨⟨qw, qe, hR⟩, hH, hN⟩, hO⟩ := h
  have hR : RPos P B (50000 * j) st.2.2.2.1 st.2.2.2.2.1 st.2.2.2.2.2.1 st.2.2.2.2.2.2.1 (st.2.2.2.2.2.2.2.2.2.2.2.2.2.2.2.2.1.2 1) qw qe := hR
  obtain ⟨v, e1, e2⟩ := X_richest (oB := st.1) hR
  refine ⟨_, ?_, h0.rd hj 0 st.2.2.2.2.2.2.2.2.2.2.2.2.2.2.2.2.2⟩
  simp only [F_step_19, F_case_19, e1, e2, z_bsN, if_true]
theorem S_24 (h : Inv j st) (hj : j < 512) : ∃ st2 : lst, F_step_24 st = some st2 ∧ Inv (j + 1) st2 := by
  have h0 := h
  obtain ⟨P, B, hX, ⟨⟨qw, qe, hR⟩, hH, hN⟩, hO⟩ := h
  have hR : RPos P B (50000 * j) st.2.2.2.1 st.2.2.2.2.1 st.2.2.2.2.2.1 st.2.2.2.2.2.2.1 (st.2.2.2.2.2.2.2.2.2.2.2.2.2.2.2.2.1.2 1) qw qe := hR
  obtain ⟨v, e1, e2⟩ := X_wrong (oB := st.1) hR
  refine ⟨_, ?_, h0.rd hj 0 st.2.2.2.2.2.2.2.2.2.2.2.2.2.2.2.2.2⟩
  simp only [F_step_24, F_case_24, e1, e2, z_bsN, if_true]
theorem S_25 (h : Inv j st) (hj : j < 512) : ∃ st2 : lst, F_step_25 st = some st2 ∧ Inv (j + 1) st2 := by
  have h0 := h
  obtain ⟨P, B, hX, ⟨⟨qw, qe, hR⟩, hH, hN⟩, hO⟩ := h
  have hR : RPos P B (50000 * j) st.2.2.2.1 st.2.2.2.2.1 st.2.2.2.2.2.1 st.2.2.2.2.2.2.1 (st.2.2.2.2.2.2.2.2.2.2.2.2.2.2.2.2.1.2 1) qw qe := hR
  obtain ⟨v, e1, e2⟩ := X_stiffest (oB := st.1) hR
  refine ⟨_, ?_, h0.rd hj 0 st.2.2.2.2.2.2.2.2.2.2.2.2.2.2.2.2.2⟩
  simp only [F_step_25, F_case_25, e1, e2, z_bsN, if_true]
theorem S_32 (h : Inv j st) (hj : j < 512) : ∃ st2 : lst, F_step_32 st = some st2 ∧ Inv (j + 1) st2 := by
  have h0 := h
  obtain ⟨P, B, hX, ⟨⟨qw, qe, hR⟩, hH, hN⟩, hO⟩ := h
  have hR : RPos P B (50000 * j) st.2.2.2.1 st.2.2.2.2.1 st.2.2.2.2.2.1 st.2.2.2.2.2.2.1 (st.2.2.2.2.2.2.2.2.2.2.2.2.2.2.2.2.1.2 1) qw qe := hR
  obtain ⟨v, e1, e2⟩ := X_countedR (oB := st.1) hR
  refine ⟨_, ?_, h0.rd hj 0 st.2.2.2.2.2.2.2.2.2.2.2.2.2.2.2.2.2⟩
  simp only [F_step_32, F_case_32, e1, e2, z_bsN, if_true]
theorem S_37 (h : Inv j st) (hj : j < 512) : ∃ st2 : lst, F_step_37 st = some st2 ∧ Inv (j + 1) st2 := by
  have h0 := h
  obtain ⟨P, B, hX, ⟨⟨qw, qe, hR⟩, hH, hN⟩, hO⟩ := h
  have hR : RPos P B (50000 * j) st.2.2.2.1 st.2.2.2.2.1 st.2.2.2.2.2.1 st.2.2.2.2.2.2.1 (st.2.2.2.2.2.2.2.2.2.2.2.2.2.2.2.2.1.2 1) qw qe := hR
  obtain ⟨v, e1, e2⟩ := X_bridges (oB := st.1) hR
  refine ⟨_, ?_, h0.rd hj 0 st.2.2.2.2.2.2.2.2.2.2.2.2.2.2.2.2.2⟩
  simp only [F_step_37, F_case_37, e1, e2, z_bsN, if_true]
theorem S_39 (h : Inv j st) (hj : j < 512) : ∃ st2 : lst, F_step_39 st = some st2 ∧ Inv (j + 1) st2 := by
  have h0 := h
  obtain ⟨P, B, hX, ⟨⟨qw, qe, hR⟩, hH, hN⟩, hO⟩ := h
  have hR : RPos P B (50000 * j) st.2.2.2.1 st.2.2.2.2.1 st.2.2.2.2.2.1 st.2.2.2.2.2.2.1 (st.2.2.2.2.2.2.2.2.2.2.2.2.2.2.2.2.1.2 1) qw qe := hR
  obtain ⟨v, e1, e2⟩ := X_room (oB := st.1) hR
  refine ⟨_, ?_, h0.rd hj 0 st.2.2.2.2.2.2.2.2.2.2.2.2.2.2.2.2.2⟩
  simp only [F_step_39, F_case_39, e1, e2, z_bsN, if_true]
theorem S_45 (h : Inv j st) (hj : j < 512) : ∃ st2 : lst, F_step_45 st = some st2 ∧ Inv (j + 1) st2 := by
  have h0 := h
  obtain ⟨P, B, hX, ⟨⟨qw, qe, hR⟩, hH, hN⟩, hO⟩ := h
  have hR : RPos P B (50000 * j) st.2.2.2.1 st.2.2.2.2.1 st.2.2.2.2.2.1 st.2.2.2.2.2.2.1 (st.2.2.2.2.2.2.2.2.2.2.2.2.2.2.2.2.1.2 1) qw qe := hR
  obtain ⟨v, e1, e2⟩ := X_gap (oB := st.1) hR
  refine ⟨_, ?_, h0.rd hj 0 st.2.2.2.2.2.2.2.2.2.2.2.2.2.2.2.2.2⟩
  simp only [F_step_45, F_case_45, e1, e2, z_bsN, if_true]
theorem S_13 (h : Inv j st) (hj : j < 512) (a1 : Int32) : ∃ st2 : lst, F_step_13 st a1 = some st2 ∧ Inv (j + 1) st2 := by
  have h0 := h
  obtain ⟨P, B, hX, ⟨⟨qw, qe, hR⟩, hH, hN⟩, hO⟩ := h
  have hR : RPos P B (50000 * j) st.2.2.2.1 st.2.2.2.2.1 st.2.2.2.2.2.1 st.2.2.2.2.2.2.1 (st.2.2.2.2.2.2.2.2.2.2.2.2.2.2.2.2.1.2 1) qw qe := hR
  rcases X_coins (oB := st.1) hR a1 with ⟨v, e1, e2⟩ | ⟨b, e1, e2⟩
  · refine ⟨_, ?_, h0.rd hj 0 (vp_updL st.2.2.2.2.2.2.2.2.2.2.2.2.2.2.2.2.2 0 v.toInt64)⟩
    simp only [F_step_13, F_case_13, F_L_coins, F_X9_thrown, e1, e2, z_bsN, z_leN, if_true, z_us, z_ul, z_lg]
  · refine ⟨_, ?_, h0.rd hj 1 st.2.2.2.2.2.2.2.2.2.2.2.2.2.2.2.2.2⟩
    simp only [F_step_13, F_case_13, F_L_coins, F_X9_thrown, e1, e2, z_bsN, z_leN, if_true, z_us, z_n10, if_false]
theorem S_14 (h : Inv j st) (hj : j < 512) (a1 : Int32) : ∃ st2 : lst, F_step_14 st a1 = some st2 ∧ Inv (j + 1) st2 := by
  have h0 := h
  obtain ⟨P, B, hX, ⟨⟨qw, qe, hR⟩, hH, hN⟩, hO⟩ := h
  have hR : RPos P B (50000 * j) st.2.2.2.1 st.2.2.2.2.1 st.2.2.2.2.2.1 st.2.2.2.2.2.2.1 (st.2.2.2.2.2.2.2.2.2.2.2.2.2.2.2.2.1.2 1) qw qe := hR
  rcases X_pride (oB := st.1) hR a1 with ⟨v, e1, e2⟩ | ⟨b, e1, e2⟩
  · refine ⟨_, ?_, h0.rd hj 0 (vp_updL st.2.2.2.2.2.2.2.2.2.2.2.2.2.2.2.2.2 0 v.toInt64)⟩
    simp only [F_step_14, F_case_14, F_L_pride, F_X9_thrown, e1, e2, z_bsN, z_leN, if_true, z_us, z_ul, z_lg]
  · refine ⟨_, ?_, h0.rd hj 1 st.2.2.2.2.2.2.2.2.2.2.2.2.2.2.2.2.2⟩
    simp only [F_step_14, F_case_14, F_L_pride, F_X9_thrown, e1, e2, z_bsN, z_leN, if_true, z_us, z_n10, if_false]
theorem S_15 (h : Inv j st) (hj : j < 512) (a1 : Int32) : ∃ st2 : lst, F_step_15 st a1 = some st2 ∧ Inv (j + 1) st2 := by
  have h0 := h
  obtain ⟨P, B, hX, ⟨⟨qw, qe, hR⟩, hH, hN⟩, hO⟩ := h
  have hR : RPos P B (50000 * j) st.2.2.2.1 st.2.2.2.2.1 st.2.2.2.2.2.1 st.2.2.2.2.2.2.1 (st.2.2.2.2.2.2.2.2.2.2.2.2.2.2.2.2.1.2 1) qw qe := hR
  rcases X_rags (oB := st.1) hR a1 with ⟨v, e1, e2⟩ | ⟨b, e1, e2⟩
  · refine ⟨_, ?_, h0.rd hj 0 (vp_updL st.2.2.2.2.2.2.2.2.2.2.2.2.2.2.2.2.2 0 v.toInt64)⟩
    simp only [F_step_15, F_case_15, F_L_rags, F_X9_thrown, e1, e2, z_bsN, z_leN, if_true, z_us, z_ul, z_lg]
  · refine ⟨_, ?_, h0.rd hj 1 st.2.2.2.2.2.2.2.2.2.2.2.2.2.2.2.2.2⟩
    simp only [F_step_15, F_case_15, F_L_rags, F_X9_thrown, e1, e2, z_bsN, z_leN, if_true, z_us, z_n10, if_false]
theorem S_16 (h : Inv j st) (hj : j < 512) (a1 : Int32) : ∃ st2 : lst, F_step_16 st a1 = some st2 ∧ Inv (j + 1) st2 := by
  have h0 := h
  obtain ⟨P, B, hX, ⟨⟨qw, qe, hR⟩, hH, hN⟩, hO⟩ := h
  have hR : RPos P B (50000 * j) st.2.2.2.1 st.2.2.2.2.1 st.2.2.2.2.2.1 st.2.2.2.2.2.2.1 (st.2.2.2.2.2.2.2.2.2.2.2.2.2.2.2.2.1.2 1) qw qe := hR
  rcases X_rank (oB := st.1) hR a1 with ⟨v, e1, e2⟩ | ⟨b, e1, e2⟩
  · refine ⟨_, ?_, h0.rd hj 0 (vp_updL st.2.2.2.2.2.2.2.2.2.2.2.2.2.2.2.2.2 0 v.toInt64)⟩
    simp only [F_step_16, F_case_16, F_L_rank, F_X9_thrown, e1, e2, z_bsN, z_leN, if_true, z_us, z_ul, z_lg]
  · refine ⟨_, ?_, h0.rd hj 1 st.2.2.2.2.2.2.2.2.2.2.2.2.2.2.2.2.2⟩
    simp only [F_step_16, F_case_16, F_L_rank, F_X9_thrown, e1, e2, z_bsN, z_leN, if_true, z_us, z_n10, if_false]
theorem S_17 (h : Inv j st) (hj : j < 512) (a1 : Int32) : ∃ st2 : lst, F_step_17 st a1 = some st2 ∧ Inv (j + 1) st2 := by
  have h0 := h
  obtain ⟨P, B, hX, ⟨⟨qw, qe, hR⟩, hH, hN⟩, hO⟩ := h
  have hR : RPos P B (50000 * j) st.2.2.2.1 st.2.2.2.2.1 st.2.2.2.2.2.1 st.2.2.2.2.2.2.1 (st.2.2.2.2.2.2.2.2.2.2.2.2.2.2.2.2.1.2 1) qw qe := hR
  rcases X_wearer (oB := st.1) hR a1 with ⟨v, e1, e2⟩ | ⟨b, e1, e2⟩
  · refine ⟨_, ?_, h0.rd hj 0 (vp_updL st.2.2.2.2.2.2.2.2.2.2.2.2.2.2.2.2.2 0 v.toInt64)⟩
    simp only [F_step_17, F_case_17, F_L_wearer, F_X9_thrown, e1, e2, z_bsN, z_leN, if_true, z_us, z_ul, z_lg]
  · refine ⟨_, ?_, h0.rd hj 1 st.2.2.2.2.2.2.2.2.2.2.2.2.2.2.2.2.2⟩
    simp only [F_step_17, F_case_17, F_L_wearer, F_X9_thrown, e1, e2, z_bsN, z_leN, if_true, z_us, z_n10, if_false]
theorem S_18 (h : Inv j st) (hj : j < 512) (a1 : Int32) : ∃ st2 : lst, F_step_18 st a1 = some st2 ∧ Inv (j + 1) st2 := by
  have h0 := h
  obtain ⟨P, B, hX, ⟨⟨qw, qe, hR⟩, hH, hN⟩, hO⟩ := h
  have hR : RPos P B (50000 * j) st.2.2.2.1 st.2.2.2.2.1 st.2.2.2.2.2.1 st.2.2.2.2.2.2.1 (st.2.2.2.2.2.2.2.2.2.2.2.2.2.2.2.2.1.2 1) qw qe := hR
  rcases X_crossings (oB := st.1) hR a1 with ⟨v, e1, e2⟩ | ⟨b, e1, e2⟩
  · refine ⟨_, ?_, h0.rd hj 0 (vp_updL st.2.2.2.2.2.2.2.2.2.2.2.2.2.2.2.2.2 0 v.toInt64)⟩
    simp only [F_step_18, F_case_18, F_L_crossings, F_X9_thrown, e1, e2, z_bsN, z_leN, if_true, z_us, z_ul, z_lg]
  · refine ⟨_, ?_, h0.rd hj 1 st.2.2.2.2.2.2.2.2.2.2.2.2.2.2.2.2.2⟩
    simp only [F_step_18, F_case_18, F_L_crossings, F_X9_thrown, e1, e2, z_bsN, z_leN, if_true, z_us, z_n10, if_false]
theorem S_21 (h : Inv j st) (hj : j < 512) (a1 : Int32) : ∃ st2 : lst, F_step_21 st a1 = some st2 ∧ Inv (j + 1) st2 := by
  have h0 := h
  obtain ⟨P, B, hX, ⟨⟨qw, qe, hR⟩, hH, hN⟩, hO⟩ := h
  have hR : RPos P B (50000 * j) st.2.2.2.1 st.2.2.2.2.1 st.2.2.2.2.2.1 st.2.2.2.2.2.2.1 (st.2.2.2.2.2.2.2.2.2.2.2.2.2.2.2.2.1.2 1) qw qe := hR
  rcases X_bowToKeeper (oB := st.1) hR a1 with ⟨v, e1, e2⟩ | ⟨b, e1, e2⟩
  · refine ⟨_, ?_, h0.rd hj 0 (vp_updL st.2.2.2.2.2.2.2.2.2.2.2.2.2.2.2.2.2 0 v.toInt64)⟩
    simp only [F_step_21, F_case_21, F_L_bowToKeeper, F_X9_thrown, e1, e2, z_bsN, z_leN, if_true, z_us, z_ul, z_lg]
  · refine ⟨_, ?_, h0.rd hj 1 st.2.2.2.2.2.2.2.2.2.2.2.2.2.2.2.2.2⟩
    simp only [F_step_21, F_case_21, F_L_bowToKeeper, F_X9_thrown, e1, e2, z_bsN, z_leN, if_true, z_us, z_n10, if_false]
theorem S_23 (h : Inv j st) (hj : j < 512) (a1 : Int32) : ∃ st2 : lst, F_step_23 st a1 = some st2 ∧ Inv (j + 1) st2 := by
  have h0 := h
  obtain ⟨P, B, hX, ⟨⟨qw, qe, hR⟩, hH, hN⟩, hO⟩ := h
  have hR : RPos P B (50000 * j) st.2.2.2.1 st.2.2.2.2.1 st.2.2.2.2.2.1 st.2.2.2.2.2.2.1 (st.2.2.2.2.2.2.2.2.2.2.2.2.2.2.2.2.1.2 1) qw qe := hR
  rcases X_tollOf (oB := st.1) hR a1 with ⟨v, e1, e2⟩ | ⟨b, e1, e2⟩
  · refine ⟨_, ?_, h0.rd hj 0 (vp_updL st.2.2.2.2.2.2.2.2.2.2.2.2.2.2.2.2.2 0 v.toInt64)⟩
    simp only [F_step_23, F_case_23, F_L_tollOf, F_X9_thrown, e1, e2, z_bsN, z_leN, if_true, z_us, z_ul, z_lg]
  · refine ⟨_, ?_, h0.rd hj 1 st.2.2.2.2.2.2.2.2.2.2.2.2.2.2.2.2.2⟩
    simp only [F_step_23, F_case_23, F_L_tollOf, F_X9_thrown, e1, e2, z_bsN, z_leN, if_true, z_us, z_n10, if_false]
theorem S_26 (h : Inv j st) (hj : j < 512) (a1 : Int32) : ∃ st2 : lst, F_step_26 st a1 = some st2 ∧ Inv (j + 1) st2 := by
  have h0 := h
  obtain ⟨P, B, hX, ⟨⟨qw, qe, hR⟩, hH, hN⟩, hO⟩ := h
  have hR : RPos P B (50000 * j) st.2.2.2.1 st.2.2.2.2.1 st.2.2.2.2.2.1 st.2.2.2.2.2.2.1 (st.2.2.2.2.2.2.2.2.2.2.2.2.2.2.2.2.1.2 1) qw qe := hR
  rcases X_cheapest (oB := st.1) hR a1 with ⟨v, e1, e2⟩ | ⟨b, e1, e2⟩
  · refine ⟨_, ?_, h0.rd hj 0 (vp_updL st.2.2.2.2.2.2.2.2.2.2.2.2.2.2.2.2.2 0 v.toInt64)⟩
    simp only [F_step_26, F_case_26, F_L_cheapestRags, F_X9_thrown, e1, e2, z_bsN, z_leN, if_true, z_us, z_ul, z_lg]
  · refine ⟨_, ?_, h0.rd hj 1 st.2.2.2.2.2.2.2.2.2.2.2.2.2.2.2.2.2⟩
    simp only [F_step_26, F_case_26, F_L_cheapestRags, F_X9_thrown, e1, e2, z_bsN, z_leN, if_true, z_us, z_n10, if_false]
theorem S_31 (h : Inv j st) (hj : j < 512) (a1 : Int32) : ∃ st2 : lst, F_step_31 st a1 = some st2 ∧ Inv (j + 1) st2 := by
  have h0 := h
  obtain ⟨P, B, hX, ⟨⟨qw, qe, hR⟩, hH, hN⟩, hO⟩ := h
  have hR : RPos P B (50000 * j) st.2.2.2.1 st.2.2.2.2.1 st.2.2.2.2.2.1 st.2.2.2.2.2.2.1 (st.2.2.2.2.2.2.2.2.2.2.2.2.2.2.2.2.1.2 1) qw qe := hR
  rcases X_royalCoins (oB := st.1) hR a1 with ⟨v, e1, e2⟩ | ⟨b, e1, e2⟩
  · refine ⟨_, ?_, h0.rd hj 0 (vp_updL st.2.2.2.2.2.2.2.2.2.2.2.2.2.2.2.2.2 0 v.toInt64)⟩
    simp only [F_step_31, F_case_31, F_L_royalCoins, F_X9_thrown, e1, e2, z_bsN, z_leN, if_true, z_us, z_ul, z_lg]
  · refine ⟨_, ?_, h0.rd hj 1 st.2.2.2.2.2.2.2.2.2.2.2.2.2.2.2.2.2⟩
    simp only [F_step_31, F_case_31, F_L_royalCoins, F_X9_thrown, e1, e2, z_bsN, z_leN, if_true, z_us, z_n10, if_false]
theorem S_36 (h : Inv j st) (hj : j < 512) (a1 : Int32) : ∃ st2 : lst, F_step_36 st a1 = some st2 ∧ Inv (j + 1) st2 := by
  have h0 := h
  obtain ⟨P, B, hX, ⟨⟨qw, qe, hR⟩, hH, hN⟩, hO⟩ := h
  have hR : RPos P B (50000 * j) st.2.2.2.1 st.2.2.2.2.1 st.2.2.2.2.2.1 st.2.2.2.2.2.2.1 (st.2.2.2.2.2.2.2.2.2.2.2.2.2.2.2.2.1.2 1) qw qe := hR
  rcases X_offer (oB := st.1) hR a1 with ⟨v, e1, e2⟩ | ⟨b, e1, e2⟩
  · refine ⟨_, ?_, h0.rd hj 0 (vp_updL st.2.2.2.2.2.2.2.2.2.2.2.2.2.2.2.2.2 0 v.toInt64)⟩
    simp only [F_step_36, F_case_36, F_L_offer, F_X9_thrown, e1, e2, z_bsN, z_leN, if_true, z_us, z_ul, z_lg]
  · refine ⟨_, ?_, h0.rd hj 1 st.2.2.2.2.2.2.2.2.2.2.2.2.2.2.2.2.2⟩
    simp only [F_step_36, F_case_36, F_L_offer, F_X9_thrown, e1, e2, z_bsN, z_leN, if_true, z_us, z_n10, if_false]
theorem S_40 (h : Inv j st) (hj : j < 512) (a1 : Int32) : ∃ st2 : lst, F_step_40 st a1 = some st2 ∧ Inv (j + 1) st2 := by
  have h0 := h
  obtain ⟨P, B, hX, ⟨⟨qw, qe, hR⟩, hH, hN⟩, hO⟩ := h
  have hR : RPos P B (50000 * j) st.2.2.2.1 st.2.2.2.2.1 st.2.2.2.2.2.1 st.2.2.2.2.2.2.1 (st.2.2.2.2.2.2.2.2.2.2.2.2.2.2.2.2.1.2 1) qw qe := hR
  rcases X_fpo (oB := st.1) hR a1 with ⟨v, e1, e2⟩ | ⟨b, e1, e2⟩
  · refine ⟨_, ?_, h0.rd hj 0 (vp_updL st.2.2.2.2.2.2.2.2.2.2.2.2.2.2.2.2.2 0 v.toInt64)⟩
    simp only [F_step_40, F_case_40, F_L_firstPlaceOffer, F_X9_thrown, e1, e2, z_bsN, z_leN, if_true, z_us, z_ul, z_lg]
  · refine ⟨_, ?_, h0.rd hj 1 st.2.2.2.2.2.2.2.2.2.2.2.2.2.2.2.2.2⟩
    simp only [F_step_40, F_case_40, F_L_firstPlaceOffer, F_X9_thrown, e1, e2, z_bsN, z_leN, if_true, z_us, z_n10, if_false]
theorem S_44 (h : Inv j st) (hj : j < 512) (a1 : Int32) : ∃ st2 : lst, F_step_44 st a1 = some st2 ∧ Inv (j + 1) st2 := by
  have h0 := h
  obtain ⟨P, B, hX, ⟨⟨qw, qe, hR⟩, hH, hN⟩, hO⟩ := h
  have hR : RPos P B (50000 * j) st.2.2.2.1 st.2.2.2.2.1 st.2.2.2.2.2.1 st.2.2.2.2.2.2.1 (st.2.2.2.2.2.2.2.2.2.2.2.2.2.2.2.2.1.2 1) qw qe := hR
  rcases X_obst (oB := st.1) hR a1 with ⟨v, e1, e2⟩ | ⟨b, e1, e2⟩
  · refine ⟨_, ?_, h0.rd hj 0 (vp_updL st.2.2.2.2.2.2.2.2.2.2.2.2.2.2.2.2.2 0 v.toInt64)⟩
    simp only [F_step_44, F_case_44, F_L_crossingObstacle, F_X9_thrown, e1, e2, z_bsN, z_leN, if_true, z_us, z_ul, z_lg]
  · refine ⟨_, ?_, h0.rd hj 1 st.2.2.2.2.2.2.2.2.2.2.2.2.2.2.2.2.2⟩
    simp only [F_step_44, F_case_44, F_L_crossingObstacle, F_X9_thrown, e1, e2, z_bsN, z_leN, if_true, z_us, z_n10, if_false]
theorem S_57 (h : Inv j st) (hj : j < 512) (a1 : Int32) : ∃ st2 : lst, F_step_57 st a1 = some st2 ∧ Inv (j + 1) st2 := by
  have h0 := h
  obtain ⟨P, B, hX, ⟨⟨qw, qe, hR⟩, hH, hN⟩, hO⟩ := h
  have hR : RPos P B (50000 * j) st.2.2.2.1 st.2.2.2.2.1 st.2.2.2.2.2.1 st.2.2.2.2.2.2.1 (st.2.2.2.2.2.2.2.2.2.2.2.2.2.2.2.2.1.2 1) qw qe := hR
  rcases X_ob hO a1 with ⟨v, e1, e2⟩ | ⟨b, e1, e2⟩
  · refine ⟨_, ?_, h0.rd hj 0 (vp_updL st.2.2.2.2.2.2.2.2.2.2.2.2.2.2.2.2.2 0 v.toInt64)⟩
    simp only [F_step_57, F_case_57, F_L_outputByte, F_X9_thrown, e1, e2, z_bsN, z_leN, if_true, z_us, z_ul, z_lg]
  · refine ⟨_, ?_, h0.rd hj 1 st.2.2.2.2.2.2.2.2.2.2.2.2.2.2.2.2.2⟩
    simp only [F_step_57, F_case_57, F_L_outputByte, F_X9_thrown, e1, e2, z_bsN, z_leN, if_true, z_us, z_n10, if_false]
end STEPS
