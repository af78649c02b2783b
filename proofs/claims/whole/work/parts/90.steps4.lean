/-! The calls that change the game, in the law's rounds. -/
section STEPSD
variable {j : Nat} {st : lst} {t om om2 oB oO : ob}
theorem zK.rx (h : zK om om2) (hX : RX t om) : RX t om2 := by
  obtain ⟨S, h1, h2, h3, h4, h5, h6⟩ := hX
  exact ⟨S, h1, h2, (h.1 9 (by omega)).trans h3, h4.trans (h.1 15 (by omega)).symm, h5.trans (h.1 16 (by omega)).symm, fun i hi => by rw [h.2.1]; exact h6 i hi⟩
theorem zK.ro (h : zK om om2) (hO : ROut oB oO om) : ROut oB oO om2 := by
  obtain ⟨L, h1, h2, h3, h4⟩ := hO
  exact ⟨L, h1, h2, (h.1 20 (by omega)).trans h3, fun i hi => by rw [h.2.2]; exact h4 i hi⟩
theorem z_n30 : ((3 : Int32) = 0) = False := by decide
theorem z_n31 : ((3 : Int32) = 1) = False := by decide
theorem z_n32 : ((3 : Int32) = 2) = False := by decide
theorem S_46 (h : Inv j st) (hj : j < 512) (a1 a2 : Int32) : ∃ st2 : lst, F_step_46 st a1 a2 = some st2 ∧ Inv (j + 1) st2 := by
  have h0 := h
  obtain ⟨P, B, hX, hG, hO⟩ := h
  rcases X_drop hG a1 a2 with ⟨c, b, hc, e1, e2⟩ | ⟨v, op2, om2, oH2, e1, e2, e3, e4, e5⟩
  · rcases hc with rfl | rfl | rfl
    · exact ⟨_, by simp only [F_step_46, F_case_46, F_L_dropCoins, F_X9_thrown, e1, e2, z_bsN, z_leN, if_true, if_false, z_us, z_n10, z_n20, z_n21, z_n30, z_n31, z_n32], h0.rd hj 1 st.2.2.2.2.2.2.2.2.2.2.2.2.2.2.2.2.2⟩
    · exact ⟨_, by simp only [F_step_46, F_case_46, F_L_dropCoins, F_X9_thrown, e1, e2, z_bsN, z_leN, if_true, if_false, z_us, z_n10, z_n20, z_n21, z_n30, z_n31, z_n32], h0.rd hj 2 st.2.2.2.2.2.2.2.2.2.2.2.2.2.2.2.2.2⟩
    · exact ⟨_, by simp only [F_step_46, F_case_46, F_L_dropCoins, F_X9_thrown, e1, e2, z_bsN, z_leN, if_true, if_false, z_us, z_n10, z_n20, z_n21, z_n30, z_n31, z_n32], h0.rd hj 3 st.2.2.2.2.2.2.2.2.2.2.2.2.2.2.2.2.2⟩
  · refine ⟨(st.1, st.2.1, st.2.2.1, st.2.2.2.1, op2, st.2.2.2.2.2.1, st.2.2.2.2.2.2.1, st.2.2.2.2.2.2.2.1, st.2.2.2.2.2.2.2.2.1, st.2.2.2.2.2.2.2.2.2.1, st.2.2.2.2.2.2.2.2.2.2.1, st.2.2.2.2.2.2.2.2.2.2.2.1, st.2.2.2.2.2.2.2.2.2.2.2.2.1, oH2, st.2.2.2.2.2.2.2.2.2.2.2.2.2.2.1, st.2.2.2.2.2.2.2.2.2.2.2.2.2.2.2.1, om2, vp_updL st.2.2.2.2.2.2.2.2.2.2.2.2.2.2.2.2.2 0 v.toInt64), ?_, P, B, e5.rx hX, e4.mono (by omega), e5.ro hO⟩
    simp only [F_step_46, F_case_46, F_L_dropCoins, F_X9_thrown, e1, e2, z_bsN, z_leN, if_true, if_false, z_us, z_n10, z_n20, z_n21, z_n30, z_n31, z_n32, e3, z_ul, z_lg]
theorem S_47 (h : Inv j st) (hj : j < 512) (a1 a2 : Int32) : ∃ st2 : lst, F_step_47 st a1 a2 = some st2 ∧ Inv (j + 1) st2 := by
  have h0 := h
  obtain ⟨P, B, hX, hG, hO⟩ := h
  rcases X_pick hG a1 a2 with ⟨c, b, hc, e1, e2⟩ | ⟨v, op2, om2, oH2, e1, e2, e3, e4, e5⟩
  · rcases hc with rfl | rfl | rfl
    · exact ⟨_, by simp only [F_step_47, F_case_47, F_L_pickCoins, F_X9_thrown, e1, e2, z_bsN, z_leN, if_true, if_false, z_us, z_n10, z_n20, z_n21, z_n30, z_n31, z_n32], h0.rd hj 1 st.2.2.2.2.2.2.2.2.2.2.2.2.2.2.2.2.2⟩
    · exact ⟨_, by simp only [F_step_47, F_case_47, F_L_pickCoins, F_X9_thrown, e1, e2, z_bsN, z_leN, if_true, if_false, z_us, z_n10, z_n20, z_n21, z_n30, z_n31, z_n32], h0.rd hj 2 st.2.2.2.2.2.2.2.2.2.2.2.2.2.2.2.2.2⟩
    · exact ⟨_, by simp only [F_step_47, F_case_47, F_L_pickCoins, F_X9_thrown, e1, e2, z_bsN, z_leN, if_true, if_false, z_us, z_n10, z_n20, z_n21, z_n30, z_n31, z_n32], h0.rd hj 3 st.2.2.2.2.2.2.2.2.2.2.2.2.2.2.2.2.2⟩
  · refine ⟨(st.1, st.2.1, st.2.2.1, st.2.2.2.1, op2, st.2.2.2.2.2.1, st.2.2.2.2.2.2.1, st.2.2.2.2.2.2.2.1, st.2.2.2.2.2.2.2.2.1, st.2.2.2.2.2.2.2.2.2.1, st.2.2.2.2.2.2.2.2.2.2.1, st.2.2.2.2.2.2.2.2.2.2.2.1, st.2.2.2.2.2.2.2.2.2.2.2.2.1, oH2, st.2.2.2.2.2.2.2.2.2.2.2.2.2.2.1, st.2.2.2.2.2.2.2.2.2.2.2.2.2.2.2.1, om2, vp_updL st.2.2.2.2.2.2.2.2.2.2.2.2.2.2.2.2.2 0 v.toInt64), ?_, P, B, e5.rx hX, e4.mono (by omega), e5.ro hO⟩
    simp only [F_step_47, F_case_47, F_L_pickCoins, F_X9_thrown, e1, e2, z_bsN, z_leN, if_true, if_false, z_us, z_n10, z_n20, z_n21, z_n30, z_n31, z_n32, e3, z_ul, z_lg]
theorem S_48 (h : Inv j st) (hj : j < 512) (a1 a2 : Int32) : ∃ st2 : lst, F_step_48 st a1 a2 = some st2 ∧ Inv (j + 1) st2 := by
  have h0 := h
  obtain ⟨P, B, hX, hG, hO⟩ := h
  rcases X_lay hG a1 a2 with ⟨c, b, hc, e1, e2⟩ | ⟨v, op2, om2, oH2, e1, e2, e3, e4, e5⟩
  · rcases hc with rfl | rfl | rfl
    · exact ⟨_, by simp only [F_step_48, F_case_48, F_L_layRoyalCoin, F_X9_thrown, e1, e2, z_bsN, z_leN, if_true, if_false, z_us, z_n10, z_n20, z_n21, z_n30, z_n31, z_n32], h0.rd hj 1 st.2.2.2.2.2.2.2.2.2.2.2.2.2.2.2.2.2⟩
    · exact ⟨_, by simp only [F_step_48, F_case_48, F_L_layRoyalCoin, F_X9_thrown, e1, e2, z_bsN, z_leN, if_true, if_false, z_us, z_n10, z_n20, z_n21, z_n30, z_n31, z_n32], h0.rd hj 2 st.2.2.2.2.2.2.2.2.2.2.2.2.2.2.2.2.2⟩
    · exact ⟨_, by simp only [F_step_48, F_case_48, F_L_layRoyalCoin, F_X9_thrown, e1, e2, z_bsN, z_leN, if_true, if_false, z_us, z_n10, z_n20, z_n21, z_n30, z_n31, z_n32], h0.rd hj 3 st.2.2.2.2.2.2.2.2.2.2.2.2.2.2.2.2.2⟩
  · refine ⟨(st.1, st.2.1, st.2.2.1, st.2.2.2.1, op2, st.2.2.2.2.2.1, st.2.2.2.2.2.2.1, st.2.2.2.2.2.2.2.1, st.2.2.2.2.2.2.2.2.1, st.2.2.2.2.2.2.2.2.2.1, st.2.2.2.2.2.2.2.2.2.2.1, st.2.2.2.2.2.2.2.2.2.2.2.1, st.2.2.2.2.2.2.2.2.2.2.2.2.1, oH2, st.2.2.2.2.2.2.2.2.2.2.2.2.2.2.1, st.2.2.2.2.2.2.2.2.2.2.2.2.2.2.2.1, om2, vp_updL st.2.2.2.2.2.2.2.2.2.2.2.2.2.2.2.2.2 0 v.toInt64), ?_, P, B, e5.rx hX, e4.mono (by omega), e5.ro hO⟩
    simp only [F_step_48, F_case_48, F_L_layRoyalCoin, F_X9_thrown, e1, e2, z_bsN, z_leN, if_true, if_false, z_us, z_n10, z_n20, z_n21, z_n30, z_n31, z_n32, e3, z_ul, z_lg]
theorem S_49 (h : Inv j st) (hj : j < 512) (a1 a2 : Int32) : ∃ st2 : lst, F_step_49 st a1 a2 = some st2 ∧ Inv (j + 1) st2 := by
  have h0 := h
  obtain ⟨P, B, hX, hG, hO⟩ := h
  rcases X_lift hG a1 a2 with ⟨c, b, hc, e1, e2⟩ | ⟨v, op2, om2, oH2, e1, e2, e3, e4, e5⟩
  · rcases hc with rfl | rfl | rfl
    · exact ⟨_, by simp only [F_step_49, F_case_49, F_L_liftRoyalCoin, F_X9_thrown, e1, e2, z_bsN, z_leN, if_true, if_false, z_us, z_n10, z_n20, z_n21, z_n30, z_n31, z_n32], h0.rd hj 1 st.2.2.2.2.2.2.2.2.2.2.2.2.2.2.2.2.2⟩
    · exact ⟨_, by simp only [F_step_49, F_case_49, F_L_liftRoyalCoin, F_X9_thrown, e1, e2, z_bsN, z_leN, if_true, if_false, z_us, z_n10, z_n20, z_n21, z_n30, z_n31, z_n32], h0.rd hj 2 st.2.2.2.2.2.2.2.2.2.2.2.2.2.2.2.2.2⟩
    · exact ⟨_, by simp only [F_step_49, F_case_49, F_L_liftRoyalCoin, F_X9_thrown, e1, e2, z_bsN, z_leN, if_true, if_false, z_us, z_n10, z_n20, z_n21, z_n30, z_n31, z_n32], h0.rd hj 3 st.2.2.2.2.2.2.2.2.2.2.2.2.2.2.2.2.2⟩
  · refine ⟨(st.1, st.2.1, st.2.2.1, st.2.2.2.1, op2, st.2.2.2.2.2.1, st.2.2.2.2.2.2.1, st.2.2.2.2.2.2.2.1, st.2.2.2.2.2.2.2.2.1, st.2.2.2.2.2.2.2.2.2.1, st.2.2.2.2.2.2.2.2.2.2.1, st.2.2.2.2.2.2.2.2.2.2.2.1, st.2.2.2.2.2.2.2.2.2.2.2.2.1, oH2, st.2.2.2.2.2.2.2.2.2.2.2.2.2.2.1, st.2.2.2.2.2.2.2.2.2.2.2.2.2.2.2.1, om2, vp_updL st.2.2.2.2.2.2.2.2.2.2.2.2.2.2.2.2.2 0 v.toInt64), ?_, P, B, e5.rx hX, e4.mono (by omega), e5.ro hO⟩
    simp only [F_step_49, F_case_49, F_L_liftRoyalCoin, F_X9_thrown, e1, e2, z_bsN, z_leN, if_true, if_false, z_us, z_n10, z_n20, z_n21, z_n30, z_n31, z_n32, e3, z_ul, z_lg]
theorem S_50 (h : Inv j st) (hj : j < 512) (a1 a2 : Int32) : ∃ st2 : lst, F_step_50 st a1 a2 = some st2 ∧ Inv (j + 1) st2 := by
  have h0 := h
  obtain ⟨P, B, hX, hG, hO⟩ := h
  rcases X_swap hG a1 a2 with ⟨c, b, hc, e1, e2⟩ | ⟨v, op2, om2, oH2, e1, e2, e3, e4, e5⟩
  · rcases hc with rfl | rfl | rfl
    · exact ⟨_, by simp only [F_step_50, F_case_50, F_L_swapRags, F_X9_thrown, e1, e2, z_bsN, z_leN, if_true, if_false, z_us, z_n10, z_n20, z_n21, z_n30, z_n31, z_n32], h0.rd hj 1 st.2.2.2.2.2.2.2.2.2.2.2.2.2.2.2.2.2⟩
    · exact ⟨_, by simp only [F_step_50, F_case_50, F_L_swapRags, F_X9_thrown, e1, e2, z_bsN, z_leN, if_true, if_false, z_us, z_n10, z_n20, z_n21, z_n30, z_n31, z_n32], h0.rd hj 2 st.2.2.2.2.2.2.2.2.2.2.2.2.2.2.2.2.2⟩
    · exact ⟨_, by simp only [F_step_50, F_case_50, F_L_swapRags, F_X9_thrown, e1, e2, z_bsN, z_leN, if_true, if_false, z_us, z_n10, z_n20, z_n21, z_n30, z_n31, z_n32], h0.rd hj 3 st.2.2.2.2.2.2.2.2.2.2.2.2.2.2.2.2.2⟩
  · refine ⟨(st.1, st.2.1, st.2.2.1, st.2.2.2.1, op2, st.2.2.2.2.2.1, st.2.2.2.2.2.2.1, st.2.2.2.2.2.2.2.1, st.2.2.2.2.2.2.2.2.1, st.2.2.2.2.2.2.2.2.2.1, st.2.2.2.2.2.2.2.2.2.2.1, st.2.2.2.2.2.2.2.2.2.2.2.1, st.2.2.2.2.2.2.2.2.2.2.2.2.1, oH2, st.2.2.2.2.2.2.2.2.2.2.2.2.2.2.1, st.2.2.2.2.2.2.2.2.2.2.2.2.2.2.2.1, om2, vp_updL st.2.2.2.2.2.2.2.2.2.2.2.2.2.2.2.2.2 0 v.toInt64), ?_, P, B, e5.rx hX, e4.mono (by omega), e5.ro hO⟩
    simp only [F_step_50, F_case_50, F_L_swapRags, F_X9_thrown, e1, e2, z_bsN, z_leN, if_true, if_false, z_us, z_n10, z_n20, z_n21, z_n30, z_n31, z_n32, e3, z_ul, z_lg]
theorem S_51 (h : Inv j st) (hj : j < 512) (a1 a2 : Int32) : ∃ st2 : lst, F_step_51 st a1 a2 = some st2 ∧ Inv (j + 1) st2 := by
  have h0 := h
  obtain ⟨P, B, hX, hG, hO⟩ := h
  rcases X_join hG (by omega) a1 a2 with ⟨c, d, b, hc, e1, e2⟩ | ⟨v, ow2, oe2, om2, oH2, e1, e2, e3, e4, e5⟩
  · rcases hc with ⟨rfl, rfl⟩ | ⟨rfl, rfl⟩ | ⟨rfl, rfl⟩
    · exact ⟨_, by simp only [F_step_51, F_case_51, F_L_joinQueue, F_X9_thrown, e1, e2, z_bsN, z_leN, if_true, if_false, z_us, z_n10, z_n20, z_n21, z_n30, z_n31, z_n32], h0.rd hj 1 st.2.2.2.2.2.2.2.2.2.2.2.2.2.2.2.2.2⟩
    · exact ⟨_, by simp only [F_step_51, F_case_51, F_L_joinQueue, F_X9_thrown, e1, e2, z_bsN, z_leN, if_true, if_false, z_us, z_n10, z_n20, z_n21, z_n30, z_n31, z_n32], h0.rd hj 2 st.2.2.2.2.2.2.2.2.2.2.2.2.2.2.2.2.2⟩
    · exact ⟨_, by simp only [F_step_51, F_case_51, F_L_joinQueue, F_X9_thrown, e1, e2, z_bsN, z_leN, if_true, if_false, z_us, z_n10, z_n20, z_n21, z_n30, z_n31, z_n32], h0.rd hj 3 st.2.2.2.2.2.2.2.2.2.2.2.2.2.2.2.2.2⟩
  · refine ⟨(st.1, st.2.1, st.2.2.1, st.2.2.2.1, st.2.2.2.2.1, ow2, oe2, st.2.2.2.2.2.2.2.1, st.2.2.2.2.2.2.2.2.1, st.2.2.2.2.2.2.2.2.2.1, st.2.2.2.2.2.2.2.2.2.2.1, st.2.2.2.2.2.2.2.2.2.2.2.1, st.2.2.2.2.2.2.2.2.2.2.2.2.1, oH2, st.2.2.2.2.2.2.2.2.2.2.2.2.2.2.1, st.2.2.2.2.2.2.2.2.2.2.2.2.2.2.2.1, om2, vp_updL st.2.2.2.2.2.2.2.2.2.2.2.2.2.2.2.2.2 0 v.toInt64), ?_, P, B, e5.rx hX, e4.mono (by omega), e5.ro hO⟩
    simp only [F_step_51, F_case_51, F_L_joinQueue, F_X9_thrown, e1, e2, z_bsN, z_leN, if_true, if_false, z_us, z_n10, z_n20, z_n21, z_n30, z_n31, z_n32, e3, z_ul, z_lg]
theorem S_52 (h : Inv j st) (hj : j < 512) (a1 : Int32) : ∃ st2 : lst, F_step_52 st a1 = some st2 ∧ Inv (j + 1) st2 := by
  have h0 := h
  obtain ⟨P, B, hX, hG, hO⟩ := h
  rcases X_quit hG (by omega) a1 with ⟨c, d, b, hc, e1, e2⟩ | ⟨v, ow2, oe2, om2, oH2, e1, e2, e3, e4, e5⟩
  · rcases hc with ⟨rfl, rfl⟩ | ⟨rfl, rfl⟩
    · exact ⟨_, by simp only [F_step_52, F_case_52, F_L_quitQueue, F_X9_thrown, e1, e2, z_bsN, z_leN, if_true, if_false, z_us, z_n10, z_n20, z_n21, z_n30, z_n31, z_n32], h0.rd hj 1 st.2.2.2.2.2.2.2.2.2.2.2.2.2.2.2.2.2⟩
    · exact ⟨_, by simp only [F_step_52, F_case_52, F_L_quitQueue, F_X9_thrown, e1, e2, z_bsN, z_leN, if_true, if_false, z_us, z_n10, z_n20, z_n21, z_n30, z_n31, z_n32], h0.rd hj 2 st.2.2.2.2.2.2.2.2.2.2.2.2.2.2.2.2.2⟩
  · refine ⟨(st.1, st.2.1, st.2.2.1, st.2.2.2.1, st.2.2.2.2.1, ow2, oe2, st.2.2.2.2.2.2.2.1, st.2.2.2.2.2.2.2.2.1, st.2.2.2.2.2.2.2.2.2.1, st.2.2.2.2.2.2.2.2.2.2.1, st.2.2.2.2.2.2.2.2.2.2.2.1, st.2.2.2.2.2.2.2.2.2.2.2.2.1, oH2, st.2.2.2.2.2.2.2.2.2.2.2.2.2.2.1, st.2.2.2.2.2.2.2.2.2.2.2.2.2.2.2.1, om2, vp_updL st.2.2.2.2.2.2.2.2.2.2.2.2.2.2.2.2.2 0 v.toInt64), ?_, P, B, e5.rx hX, e4.mono (by omega), e5.ro hO⟩
    simp only [F_step_52, F_case_52, F_L_quitQueue, F_X9_thrown, e1, e2, z_bsN, z_leN, if_true, if_false, z_us, z_n10, z_n20, z_n21, z_n30, z_n31, z_n32, e3, z_ul, z_lg]
theorem S_54 (h : Inv j st) (hj : j < 512) (a1 : Int32) : ∃ st2 : lst, F_step_54 st a1 = some st2 ∧ Inv (j + 1) st2 := by
  have h0 := h
  obtain ⟨P, B, hX, hG, hO⟩ := h
  rcases X_turns hG (by omega) a1 with ⟨c, d, b, hc, e1, e2⟩ | ⟨v, op2, ow2, oe2, om2, oH2, e1, e2, e3, e4, e5⟩
  · rcases hc with ⟨rfl, rfl⟩ | ⟨rfl, rfl⟩
    · exact ⟨_, by simp only [F_step_54, F_case_54, F_L_passTurns, F_X9_thrown, e1, e2, z_bsN, z_leN, if_true, if_false, z_us, z_n10, z_n20, z_n21, z_n30, z_n31, z_n32], h0.rd hj 1 st.2.2.2.2.2.2.2.2.2.2.2.2.2.2.2.2.2⟩
    · exact ⟨_, by simp only [F_step_54, F_case_54, F_L_passTurns, F_X9_thrown, e1, e2, z_bsN, z_leN, if_true, if_false, z_us, z_n10, z_n20, z_n21, z_n30, z_n31, z_n32], h0.rd hj 2 st.2.2.2.2.2.2.2.2.2.2.2.2.2.2.2.2.2⟩
  · refine ⟨(st.1, st.2.1, st.2.2.1, st.2.2.2.1, op2, ow2, oe2, st.2.2.2.2.2.2.2.1, st.2.2.2.2.2.2.2.2.1, st.2.2.2.2.2.2.2.2.2.1, st.2.2.2.2.2.2.2.2.2.2.1, st.2.2.2.2.2.2.2.2.2.2.2.1, st.2.2.2.2.2.2.2.2.2.2.2.2.1, oH2, st.2.2.2.2.2.2.2.2.2.2.2.2.2.2.1, st.2.2.2.2.2.2.2.2.2.2.2.2.2.2.2.1, om2, vp_updL st.2.2.2.2.2.2.2.2.2.2.2.2.2.2.2.2.2 0 v.toInt64), ?_, P, B, e5.rx hX, e4.mono (by omega), e5.ro hO⟩
    simp only [F_step_54, F_case_54, F_L_passTurns, F_X9_thrown, e1, e2, z_bsN, z_leN, if_true, if_false, z_us, z_n10, z_n20, z_n21, z_n30, z_n31, z_n32, e3, z_ul, z_lg]
theorem S_59 (h : Inv j st) (hj : j < 512) : ∃ st2 : lst, F_step_59 st = some st2 ∧ Inv (j + 1) st2 := by
  have h0 := h
  obtain ⟨P, B, hX, hG, hO⟩ := h
  rcases X_undo hG with ⟨b, e1, e2⟩ | ⟨v, op2, ow2, oe2, om2, oH2, e1, e2, e3, e4, e5⟩
  · exact ⟨_, by simp only [F_step_59, F_case_59, F_L_undo, F_X9_thrown, e1, e2, z_bsN, z_leN, if_true, if_false, z_us, z_n10, z_n20, z_n21, z_n30, z_n31, z_n32], h0.rd hj 1 st.2.2.2.2.2.2.2.2.2.2.2.2.2.2.2.2.2⟩
  · refine ⟨(st.1, st.2.1, st.2.2.1, st.2.2.2.1, op2, ow2, oe2, st.2.2.2.2.2.2.2.1, st.2.2.2.2.2.2.2.2.1, st.2.2.2.2.2.2.2.2.2.1, st.2.2.2.2.2.2.2.2.2.2.1, st.2.2.2.2.2.2.2.2.2.2.2.1, st.2.2.2.2.2.2.2.2.2.2.2.2.1, oH2, st.2.2.2.2.2.2.2.2.2.2.2.2.2.2.1, st.2.2.2.2.2.2.2.2.2.2.2.2.2.2.2.1, om2, vp_updL st.2.2.2.2.2.2.2.2.2.2.2.2.2.2.2.2.2 0 v.toInt64), ?_, P, B, e5.rx hX, e4.mono (by omega), e5.ro hO⟩
    simp only [F_step_59, F_case_59, F_L_undo, F_X9_thrown, e1, e2, z_bsN, z_leN, if_true, if_false, z_us, z_n10, z_n20, z_n21, z_n30, z_n31, z_n32, e3, z_ul, z_lg]
theorem S_61 (h : Inv j st) (hj : j < 512) : ∃ st2 : lst, F_step_61 st = some st2 ∧ Inv (j + 1) st2 := by
  have h0 := h
  obtain ⟨P, B, hX, hG, hO⟩ := h
  rcases X_restore hG with ⟨b, e1, e2⟩ | ⟨v, op2, ow2, oe2, om2, oH2, e1, e2, e3, e4, e5⟩
  · exact ⟨_, by simp only [F_step_61, F_case_61, F_L_restoreSnapshot, F_X9_thrown, e1, e2, z_bsN, z_leN, if_true, if_false, z_us, z_n10, z_n20, z_n21, z_n30, z_n31, z_n32], h0.rd hj 1 st.2.2.2.2.2.2.2.2.2.2.2.2.2.2.2.2.2⟩
  · refine ⟨(st.1, st.2.1, st.2.2.1, st.2.2.2.1, op2, ow2, oe2, st.2.2.2.2.2.2.2.1, st.2.2.2.2.2.2.2.2.1, st.2.2.2.2.2.2.2.2.2.1, st.2.2.2.2.2.2.2.2.2.2.1, st.2.2.2.2.2.2.2.2.2.2.2.1, st.2.2.2.2.2.2.2.2.2.2.2.2.1, oH2, st.2.2.2.2.2.2.2.2.2.2.2.2.2.2.1, st.2.2.2.2.2.2.2.2.2.2.2.2.2.2.2.1, om2, vp_updL st.2.2.2.2.2.2.2.2.2.2.2.2.2.2.2.2.2 0 v.toInt64), ?_, P, B, e5.rx hX, e4.mono (by omega), e5.ro hO⟩
    simp only [F_step_61, F_case_61, F_L_restoreSnapshot, F_X9_thrown, e1, e2, z_bsN, z_leN, if_true, if_false, z_us, z_n10, z_n20, z_n21, z_n30, z_n31, z_n32, e3, z_ul, z_lg]
end STEPSD
