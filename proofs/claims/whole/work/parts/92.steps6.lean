/-! The round of setPride. -/
theorem S_53 {j : Nat} {st : lst} (h : Inv j st) (hj : j < 512) (a1 a2 : Int32) : ∃ st2 : lst, F_step_53 st a1 a2 = some st2 ∧ Inv (j + 1) st2 := by
  have h0 := h
  obtain ⟨P, B, hX, hG, hO⟩ := h
  rcases X_pride2 hG a1 a2 with ⟨c, b, hc, e1, e2⟩ | ⟨v, op2, om2, oH2, e1, e2, e3, e4, e5⟩
  · rcases hc with rfl | rfl
    · exact ⟨_, by simp only [F_step_53, F_case_53, F_L_setPride, F_X9_thrown, e1, e2, z_bsN, z_leN, if_true, if_false, z_us, z_n10, z_n20, z_n21, z_n30, z_n31, z_n32], h0.rd hj 1 st.2.2.2.2.2.2.2.2.2.2.2.2.2.2.2.2.2⟩
    · exact ⟨_, by simp only [F_step_53, F_case_53, F_L_setPride, F_X9_thrown, e1, e2, z_bsN, z_leN, if_true, if_false, z_us, z_n10, z_n20, z_n21, z_n30, z_n31, z_n32], h0.rd hj 2 st.2.2.2.2.2.2.2.2.2.2.2.2.2.2.2.2.2⟩
  · refine ⟨(st.1, st.2.1, st.2.2.1, st.2.2.2.1, op2, st.2.2.2.2.2.1, st.2.2.2.2.2.2.1, st.2.2.2.2.2.2.2.1, st.2.2.2.2.2.2.2.2.1, st.2.2.2.2.2.2.2.2.2.1, st.2.2.2.2.2.2.2.2.2.2.1, st.2.2.2.2.2.2.2.2.2.2.2.1, st.2.2.2.2.2.2.2.2.2.2.2.2.1, oH2, st.2.2.2.2.2.2.2.2.2.2.2.2.2.2.1, st.2.2.2.2.2.2.2.2.2.2.2.2.2.2.2.1, om2, vp_updL st.2.2.2.2.2.2.2.2.2.2.2.2.2.2.2.2.2 0 v.toInt64), ?_, P, B, e5.rx hX, e4.mono (by omega), e5.ro hO⟩
    simp only [F_step_53, F_case_53, F_L_setPride, F_X9_thrown, e1, e2, z_bsN, z_leN, if_true, if_false, z_us, z_n10, z_n20, z_n21, z_n30, z_n31, z_n32, e3, z_ul, z_lg]
