/-! The last of the law's rounds. -/
section STEPSE
variable {j P B J : Nat} {st : lst} {t os op ow oe np nw ne om om2 oB oB2 oO : ob} {oH : hst}
theorem RG.fr (h : RG P B J oB os op ow oe np nw ne oH om) (kb : oB2.1 10 = oB.1 10) (k6 : om2.1 6 = om.1 6) (k7 : om2.1 7 = om.1 7) (r1 : ∀ i : Nat, i < 144 → om2.2 1 i = om.2 1 i) (r3 : om2.2 3 = om.2 3) (r5 : om2.2 5 = om.2 5) : RG P B J oB2 os op ow oe np nw ne oH om2 := by
  obtain ⟨a, b, c⟩ := h
  refine ⟨a.cong r1, ?_, ?_⟩
  · rw [k6, r5]; exact b
  · rw [k7, r3, kb]; exact c
theorem ROut.fr (hO : ROut oB oO om) (kb : oB2.1 9 = oB.1 9) (k : om2.1 20 = om.1 20) (r : om2.2 19 = om.2 19) : ROut oB2 oO om2 := by
  obtain ⟨L, h1, h2, h3, h4⟩ := hO
  exact ⟨L, h1, kb.trans h2, k.trans h3, fun i hi => by rw [r]; exact h4 i hi⟩
theorem S_0 (h : Inv j st) (hj : j < 512) (a1 a2 a3 a4 a5 : Int32) : ∃ st2 : lst, F_step_0 st a1 a2 a3 a4 a5 = some st2 ∧ Inv (j + 1) st2 := by
  have h0 := h
  obtain ⟨P, B, hX, hG, hO⟩ := h
  obtain ⟨v, ot2, om2, e1, e2, e3, e4, e5, e6⟩ := X_append (oB := st.1) hX a1 a2 a3 a4 a5
  refine ⟨(st.1, ot2, st.2.2.1, st.2.2.2.1, st.2.2.2.2.1, st.2.2.2.2.2.1, st.2.2.2.2.2.2.1, st.2.2.2.2.2.2.2.1, st.2.2.2.2.2.2.2.2.1, st.2.2.2.2.2.2.2.2.2.1, st.2.2.2.2.2.2.2.2.2.2.1, st.2.2.2.2.2.2.2.2.2.2.2.1, st.2.2.2.2.2.2.2.2.2.2.2.2.1, st.2.2.2.2.2.2.2.2.2.2.2.2.2.1, st.2.2.2.2.2.2.2.2.2.2.2.2.2.2.1, st.2.2.2.2.2.2.2.2.2.2.2.2.2.2.2.1, om2, st.2.2.2.2.2.2.2.2.2.2.2.2.2.2.2.2.2), ?_, P, B, e4, (hG.fr (om2 := om2) rfl (e5 6 (by omega) (by omega)) (e5 7 (by omega) (by omega)) (fun i _ => by rw [e6 1 (by omega)]) (e6 3 (by omega)) (e6 5 (by omega))).mono (by omega), hO.fr rfl (e5 20 (by omega) (by omega)) (e6 19 (by omega))⟩
  simp only [F_step_0, F_case_0, e1, e2, z_bsN, if_true]
theorem S_1 (h : Inv j st) (hj : j < 512) (a1 : Int32) : ∃ st2 : lst, F_step_1 st a1 = some st2 ∧ Inv (j + 1) st2 := by
  have h0 := h
  obtain ⟨P, B, hX, hG, hO⟩ := h
  rcases X_load (od := st.2.2.1) hX hG a1 with ⟨b, e1, e2⟩ | ⟨v, oB2, ot2, od2, os2, op2, ow2, oe2, om2, oH2, P2, B2, e1, e2, e3, e4, e5, e6, e7, e8⟩
  · exact ⟨_, by simp only [F_step_1, F_case_1, F_L_loadGame, F_X9_thrown, e1, e2, z_bsN, z_leN, if_true, if_false, z_us, z_n10, z_n20, z_n21, z_n30, z_n31, z_n32], h0.rd hj 1 st.2.2.2.2.2.2.2.2.2.2.2.2.2.2.2.2.2⟩
  · refine ⟨(oB2, ot2, od2, os2, op2, ow2, oe2, st.2.2.2.2.2.2.2.1, st.2.2.2.2.2.2.2.2.1, st.2.2.2.2.2.2.2.2.2.1, st.2.2.2.2.2.2.2.2.2.2.1, st.2.2.2.2.2.2.2.2.2.2.2.1, st.2.2.2.2.2.2.2.2.2.2.2.2.1, oH2, st.2.2.2.2.2.2.2.2.2.2.2.2.2.2.1, st.2.2.2.2.2.2.2.2.2.2.2.2.2.2.2.1, om2, vp_updL st.2.2.2.2.2.2.2.2.2.2.2.2.2.2.2.2.2 0 v.toInt64), ?_, P2, B2, e4, e5.mono (by omega), hO.fr e8 e6 e7⟩
    simp only [F_step_1, F_case_1, F_L_loadGame, F_X9_thrown, e1, e2, z_bsN, z_leN, if_true, if_false, z_us, z_n10, z_n20, z_n21, z_n30, z_n31, z_n32, e3, z_ul, z_lg]
theorem S_41 (h : Inv j st) (hj : j < 512) (a1 : Int32) : ∃ st2 : lst, F_step_41 st a1 = some st2 ∧ Inv (j + 1) st2 := by
  have h0 := h
  obtain ⟨P, B, hX, hG, hO⟩ := h
  obtain ⟨⟨qw, qe, hR⟩, hH, hN⟩ := hG
  have hG : RG P B (50000 * j) st.1 st.2.2.2.1 st.2.2.2.2.1 st.2.2.2.2.2.1 st.2.2.2.2.2.2.1 st.2.2.2.2.2.2.2.2.2.2.1 st.2.2.2.2.2.2.2.2.2.2.2.1 st.2.2.2.2.2.2.2.2.2.2.2.2.1 st.2.2.2.2.2.2.2.2.2.2.2.2.2.1 st.2.2.2.2.2.2.2.2.2.2.2.2.2.2.2.2.1 := ⟨⟨qw, qe, hR⟩, hH, hN⟩
  have hR : RPos P B (50000 * j) st.2.2.2.1 st.2.2.2.2.1 st.2.2.2.2.2.1 st.2.2.2.2.2.2.1 (st.2.2.2.2.2.2.2.2.2.2.2.2.2.2.2.2.1.2 1) qw qe := hR
  rcases X_tuc (oB := st.1) (ofp := st.2.2.2.2.2.2.2.1) (ofw := st.2.2.2.2.2.2.2.2.1) (ofe := st.2.2.2.2.2.2.2.2.2.1) hR (by omega) a1 with ⟨v, a, b, c, om2, e1, e2, e3, e4, e5⟩ | ⟨b, e1, e2⟩
  · have z0 : om2.1 0 = 0 := by rw [e3, z_us]
    have zi : ∀ i : Nat, i ≠ 0 → om2.1 i = st.2.2.2.2.2.2.2.2.2.2.2.2.2.2.2.2.1.1 i := fun i hi => by rw [e3, z_un hi]
    refine ⟨(st.1, st.2.1, st.2.2.1, st.2.2.2.1, st.2.2.2.2.1, st.2.2.2.2.2.1, st.2.2.2.2.2.2.1, a, b, c, st.2.2.2.2.2.2.2.2.2.2.1, st.2.2.2.2.2.2.2.2.2.2.2.1, st.2.2.2.2.2.2.2.2.2.2.2.2.1, st.2.2.2.2.2.2.2.2.2.2.2.2.2.1, st.2.2.2.2.2.2.2.2.2.2.2.2.2.2.1, st.2.2.2.2.2.2.2.2.2.2.2.2.2.2.2.1, om2, vp_updL st.2.2.2.2.2.2.2.2.2.2.2.2.2.2.2.2.2 0 v.toInt64), ?_, P, B, ?_, (hG.fr (om2 := om2) rfl (zi 6 (by omega)) (zi 7 (by omega)) e4 (e5 3 (by omega) (by omega)) (e5 5 (by omega) (by omega))).mono (by omega), hO.fr rfl (zi 20 (by omega)) (e5 19 (by omega) (by omega))⟩
    · simp only [F_step_41, F_case_41, F_L_turnsUntilCrossing, F_X9_thrown, e1, e2, z_bsN, z_leN, if_true, if_false, z_us, z_n10, z_n20, z_n21, z_n30, z_n31, z_n32, z0, z_ul, z_lg]
    · obtain ⟨S, h1, h2, h3, h4, h5, h6⟩ := hX
      exact ⟨S, h1, h2, (zi 9 (by omega)).trans h3, h4.trans (zi 15 (by omega)).symm, h5.trans (zi 16 (by omega)).symm, fun i hi => by rw [e5 8 (by omega) (by omega)]; exact h6 i hi⟩
  · exact ⟨_, by simp only [F_step_41, F_case_41, F_L_turnsUntilCrossing, F_X9_thrown, e1, e2, z_bsN, z_leN, if_true, if_false, z_us, z_n10, z_n20, z_n21, z_n30, z_n31, z_n32], h0.rd hj 1 st.2.2.2.2.2.2.2.2.2.2.2.2.2.2.2.2.2⟩
theorem S_42 (h : Inv j st) (hj : j < 512) (a1 : Int32) : ∃ st2 : lst, F_step_42 st a1 = some st2 ∧ Inv (j + 1) st2 := by
  have h0 := h
  obtain ⟨P, B, hX, hG, hO⟩ := h
  obtain ⟨⟨qw, qe, hR⟩, hH, hN⟩ := hG
  have hG : RG P B (50000 * j) st.1 st.2.2.2.1 st.2.2.2.2.1 st.2.2.2.2.2.1 st.2.2.2.2.2.2.1 st.2.2.2.2.2.2.2.2.2.2.1 st.2.2.2.2.2.2.2.2.2.2.2.1 st.2.2.2.2.2.2.2.2.2.2.2.2.1 st.2.2.2.2.2.2.2.2.2.2.2.2.2.1 st.2.2.2.2.2.2.2.2.2.2.2.2.2.2.2.2.1 := ⟨⟨qw, qe, hR⟩, hH, hN⟩
  have hR : RPos P B (50000 * j) st.2.2.2.1 st.2.2.2.2.1 st.2.2.2.2.2.1 st.2.2.2.2.2.2.1 (st.2.2.2.2.2.2.2.2.2.2.2.2.2.2.2.2.1.2 1) qw qe := hR
  rcases X_tba (oB := st.1) (ofp := st.2.2.2.2.2.2.2.1) (ofw := st.2.2.2.2.2.2.2.2.1) (ofe := st.2.2.2.2.2.2.2.2.2.1) hR (by omega) a1 with ⟨v, a, b, c, om2, e1, e2, e3, e4, e5⟩ | ⟨b, e1, e2⟩
  · have z0 : om2.1 0 = 0 := by rw [e3, z_us]
    have zi : ∀ i : Nat, i ≠ 0 → om2.1 i = st.2.2.2.2.2.2.2.2.2.2.2.2.2.2.2.2.1.1 i := fun i hi => by rw [e3, z_un hi]
    refine ⟨(st.1, st.2.1, st.2.2.1, st.2.2.2.1, st.2.2.2.2.1, st.2.2.2.2.2.1, st.2.2.2.2.2.2.1, a, b, c, st.2.2.2.2.2.2.2.2.2.2.1, st.2.2.2.2.2.2.2.2.2.2.2.1, st.2.2.2.2.2.2.2.2.2.2.2.2.1, st.2.2.2.2.2.2.2.2.2.2.2.2.2.1, st.2.2.2.2.2.2.2.2.2.2.2.2.2.2.1, st.2.2.2.2.2.2.2.2.2.2.2.2.2.2.2.1, om2, vp_updL st.2.2.2.2.2.2.2.2.2.2.2.2.2.2.2.2.2 0 v.toInt64), ?_, P, B, ?_, (hG.fr (om2 := om2) rfl (zi 6 (by omega)) (zi 7 (by omega)) e4 (e5 3 (by omega) (by omega)) (e5 5 (by omega) (by omega))).mono (by omega), hO.fr rfl (zi 20 (by omega)) (e5 19 (by omega) (by omega))⟩
    · simp only [F_step_42, F_case_42, F_L_tollBoxAfter, F_X9_thrown, e1, e2, z_bsN, z_leN, if_true, if_false, z_us, z_n10, z_n20, z_n21, z_n30, z_n31, z_n32, z0, z_ul, z_lg]
    · obtain ⟨S, h1, h2, h3, h4, h5, h6⟩ := hX
      exact ⟨S, h1, h2, (zi 9 (by omega)).trans h3, h4.trans (zi 15 (by omega)).symm, h5.trans (zi 16 (by omega)).symm, fun i hi => by rw [e5 8 (by omega) (by omega)]; exact h6 i hi⟩
  · exact ⟨_, by simp only [F_step_42, F_case_42, F_L_tollBoxAfter, F_X9_thrown, e1, e2, z_bsN, z_leN, if_true, if_false, z_us, z_n10, z_n20, z_n21, z_n30, z_n31, z_n32], h0.rd hj 1 st.2.2.2.2.2.2.2.2.2.2.2.2.2.2.2.2.2⟩
theorem S_43 (h : Inv j st) (hj : j < 512) (a1 : Int32) : ∃ st2 : lst, F_step_43 st a1 = some st2 ∧ Inv (j + 1) st2 := by
  have h0 := h
  obtain ⟨P, B, hX, hG, hO⟩ := h
  obtain ⟨⟨qw, qe, hR⟩, hH, hN⟩ := hG
  have hG : RG P B (50000 * j) st.1 st.2.2.2.1 st.2.2.2.2.1 st.2.2.2.2.2.1 st.2.2.2.2.2.2.1 st.2.2.2.2.2.2.2.2.2.2.1 st.2.2.2.2.2.2.2.2.2.2.2.1 st.2.2.2.2.2.2.2.2.2.2.2.2.1 st.2.2.2.2.2.2.2.2.2.2.2.2.2.1 st.2.2.2.2.2.2.2.2.2.2.2.2.2.2.2.2.1 := ⟨⟨qw, qe, hR⟩, hH, hN⟩
  have hR : RPos P B (50000 * j) st.2.2.2.1 st.2.2.2.2.1 st.2.2.2.2.2.1 st.2.2.2.2.2.2.1 (st.2.2.2.2.2.2.2.2.2.2.2.2.2.2.2.2.1.2 1) qw qe := hR
  rcases X_laa (oB := st.1) (ofp := st.2.2.2.2.2.2.2.1) (ofw := st.2.2.2.2.2.2.2.2.1) (ofe := st.2.2.2.2.2.2.2.2.2.1) hR (by omega) a1 with ⟨v, a, b, c, om2, e1, e2, e3, e4, e5⟩ | ⟨b, e1, e2⟩
  · have z0 : om2.1 0 = 0 := by rw [e3, z_us]
    have zi : ∀ i : Nat, i ≠ 0 → om2.1 i = st.2.2.2.2.2.2.2.2.2.2.2.2.2.2.2.2.1.1 i := fun i hi => by rw [e3, z_un hi]
    refine ⟨(st.1, st.2.1, st.2.2.1, st.2.2.2.1, st.2.2.2.2.1, st.2.2.2.2.2.1, st.2.2.2.2.2.2.1, a, b, c, st.2.2.2.2.2.2.2.2.2.2.1, st.2.2.2.2.2.2.2.2.2.2.2.1, st.2.2.2.2.2.2.2.2.2.2.2.2.1, st.2.2.2.2.2.2.2.2.2.2.2.2.2.1, st.2.2.2.2.2.2.2.2.2.2.2.2.2.2.1, st.2.2.2.2.2.2.2.2.2.2.2.2.2.2.2.1, om2, vp_updL st.2.2.2.2.2.2.2.2.2.2.2.2.2.2.2.2.2 0 v.toInt64), ?_, P, B, ?_, (hG.fr (om2 := om2) rfl (zi 6 (by omega)) (zi 7 (by omega)) e4 (e5 3 (by omega) (by omega)) (e5 5 (by omega) (by omega))).mono (by omega), hO.fr rfl (zi 20 (by omega)) (e5 19 (by omega) (by omega))⟩
    · simp only [F_step_43, F_case_43, F_L_limitAngleAfter, F_X9_thrown, e1, e2, z_bsN, z_leN, if_true, if_false, z_us, z_n10, z_n20, z_n21, z_n30, z_n31, z_n32, z0, z_ul, z_lg]
    · obtain ⟨S, h1, h2, h3, h4, h5, h6⟩ := hX
      exact ⟨S, h1, h2, (zi 9 (by omega)).trans h3, h4.trans (zi 15 (by omega)).symm, h5.trans (zi 16 (by omega)).symm, fun i hi => by rw [e5 8 (by omega) (by omega)]; exact h6 i hi⟩
  · exact ⟨_, by simp only [F_step_43, F_case_43, F_L_limitAngleAfter, F_X9_thrown, e1, e2, z_bsN, z_leN, if_true, if_false, z_us, z_n10, z_n20, z_n21, z_n30, z_n31, z_n32], h0.rd hj 1 st.2.2.2.2.2.2.2.2.2.2.2.2.2.2.2.2.2⟩
theorem S_55 (h : Inv j st) (hj : j < 512) (a1 : Int32) : ∃ st2 : lst, F_step_55 st a1 = some st2 ∧ Inv (j + 1) st2 := by
  have h0 := h
  obtain ⟨P, B, hX, hG, hO⟩ := h
  rcases X_script (oc := st.2.2.2.2.2.2.2.2.2.2.2.2.2.2.1) hX hG (by omega) a1 with ⟨b, e1, e2⟩ | ⟨v, ot2, op2, ow2, oe2, om2, oH2, oc2, e1, e2, e3, e4, e5, e6, e7⟩
  · exact ⟨_, by simp only [F_step_55, F_case_55, F_L_runScript, F_X9_thrown, e1, e2, z_bsN, z_leN, if_true, if_false, z_us, z_n10, z_n20, z_n21, z_n30, z_n31, z_n32], h0.rd hj 1 st.2.2.2.2.2.2.2.2.2.2.2.2.2.2.2.2.2⟩
  · refine ⟨(st.1, ot2, st.2.2.1, st.2.2.2.1, op2, ow2, oe2, st.2.2.2.2.2.2.2.1, st.2.2.2.2.2.2.2.2.1, st.2.2.2.2.2.2.2.2.2.1, st.2.2.2.2.2.2.2.2.2.2.1, st.2.2.2.2.2.2.2.2.2.2.2.1, st.2.2.2.2.2.2.2.2.2.2.2.2.1, oH2, oc2, st.2.2.2.2.2.2.2.2.2.2.2.2.2.2.2.1, om2, vp_updL st.2.2.2.2.2.2.2.2.2.2.2.2.2.2.2.2.2 0 v.toInt64), ?_, P, B, e4, e5.mono (by omega), hO.fr rfl e6 e7⟩
    simp only [F_step_55, F_case_55, F_L_runScript, F_X9_thrown, e1, e2, z_bsN, z_leN, if_true, if_false, z_us, z_n10, z_n20, z_n21, z_n30, z_n31, z_n32, e3, z_ul, z_lg]
theorem S_60 (h : Inv j st) (hj : j < 512) : ∃ st2 : lst, F_step_60 st = some st2 ∧ Inv (j + 1) st2 := by
  have h0 := h
  obtain ⟨P, B, hX, hG, hO⟩ := h
  obtain ⟨np2, nw2, ne2, om2, e1, e2, e3, e4, e5⟩ := X_save hG
  refine ⟨((upd st.1.1 10 1, st.1.2), st.2.1, st.2.2.1, st.2.2.2.1, st.2.2.2.2.1, st.2.2.2.2.2.1, st.2.2.2.2.2.2.1, st.2.2.2.2.2.2.2.1, st.2.2.2.2.2.2.2.2.1, st.2.2.2.2.2.2.2.2.2.1, np2, nw2, ne2, st.2.2.2.2.2.2.2.2.2.2.2.2.2.1, st.2.2.2.2.2.2.2.2.2.2.2.2.2.2.1, st.2.2.2.2.2.2.2.2.2.2.2.2.2.2.2.1, om2, st.2.2.2.2.2.2.2.2.2.2.2.2.2.2.2.2.2), ?_, P, B, e5.rx hX, e4.mono (by omega), (e5.ro hO).fr (z_un (i := 10) (j := 9) (v := 1) (by omega)) rfl rfl⟩
  simp only [F_step_60, F_case_60, e1, e2, z_bsN]
theorem S_56 (h : Inv j st) (hj : j < 512) (a1 : Int32) : ∃ st2 : lst, F_step_56 st a1 = some st2 ∧ Inv (j + 1) st2 := by
  have h0 := h
  obtain ⟨P, B, hX, hG, hO⟩ := h
  obtain ⟨⟨qw, qe, hR⟩, hH, hN⟩ := hG
  have hG : RG P B (50000 * j) st.1 st.2.2.2.1 st.2.2.2.2.1 st.2.2.2.2.2.1 st.2.2.2.2.2.2.1 st.2.2.2.2.2.2.2.2.2.2.1 st.2.2.2.2.2.2.2.2.2.2.2.1 st.2.2.2.2.2.2.2.2.2.2.2.2.1 st.2.2.2.2.2.2.2.2.2.2.2.2.2.1 st.2.2.2.2.2.2.2.2.2.2.2.2.2.2.2.2.1 := ⟨⟨qw, qe, hR⟩, hH, hN⟩
  have hR : RPos P B (50000 * j) st.2.2.2.1 st.2.2.2.2.1 st.2.2.2.2.2.1 st.2.2.2.2.2.2.1 (st.2.2.2.2.2.2.2.2.2.2.2.2.2.2.2.2.1.2 1) qw qe := hR
  have key : ∀ (x v : Int32) (oB2 oO2 om2 : ob), F_X8_writeQueue st.1 st.2.2.2.1 st.2.2.2.2.1 st.2.2.2.2.2.1 st.2.2.2.2.2.2.1 st.2.2.2.2.2.2.2.2.2.2.2.2.2.2.2.1 x = some (v, oB2, oO2) → ROut oB2 oO2 om2 → wB st.1 oB2 → (∀ i : Nat, i ≠ 0 → i ≠ 20 → om2.1 i = st.2.2.2.2.2.2.2.2.2.2.2.2.2.2.2.2.1.1 i) → (∀ r : Nat, r ≠ 19 → om2.2 r = st.2.2.2.2.2.2.2.2.2.2.2.2.2.2.2.2.1.2 r) → Inv (j + 1) (oB2, st.2.1, st.2.2.1, st.2.2.2.1, st.2.2.2.2.1, st.2.2.2.2.2.1, st.2.2.2.2.2.2.1, st.2.2.2.2.2.2.2.1, st.2.2.2.2.2.2.2.2.1, st.2.2.2.2.2.2.2.2.2.1, st.2.2.2.2.2.2.2.2.2.2.1, st.2.2.2.2.2.2.2.2.2.2.2.1, st.2.2.2.2.2.2.2.2.2.2.2.2.1, st.2.2.2.2.2.2.2.2.2.2.2.2.2.1, st.2.2.2.2.2.2.2.2.2.2.2.2.2.2.1, oO2, om2, st.2.2.2.2.2.2.2.2.2.2.2.2.2.2.2.2.2) := by
    intro x v oB2 oO2 om2 _ r1 r2 r3 r4
    refine ⟨P, B, ?_, (hG.fr (om2 := om2) (r2 10 (by omega)) (r3 6 (by omega) (by omega)) (r3 7 (by omega) (by omega)) (fun i _ => by rw [r4 1 (by omega)]) (r4 3 (by omega)) (r4 5 (by omega))).mono (by omega), r1⟩
    obtain ⟨S, h1, h2, h3, h4, h5, h6⟩ := hX
    exact ⟨S, h1, h2, (r3 9 (by omega) (by omega)).trans h3, h4.trans (r3 15 (by omega) (by omega)).symm, h5.trans (r3 16 (by omega) (by omega)).symm, fun i hi => by rw [r4 8 (by omega)]; exact h6 i hi⟩
  by_cases q : a1 = 0
  · obtain ⟨v, oB2, oO2, om2, e1, e2, e3, e4, e5, e6, e7⟩ := X_wq (oB := st.1) (oO := st.2.2.2.2.2.2.2.2.2.2.2.2.2.2.2.1) hR 0
    exact ⟨_, by simp only [F_step_56, F_case_56, q, if_true, e1, e2, z_bsN], key 0 v oB2 oO2 om2 e1 e4 e5 e6 e7⟩
  · obtain ⟨v, oB2, oO2, om2, e1, e2, e3, e4, e5, e6, e7⟩ := X_wq (oB := st.1) (oO := st.2.2.2.2.2.2.2.2.2.2.2.2.2.2.2.1) hR 1
    exact ⟨_, by simp only [F_step_56, F_case_56, q, if_false, if_true, e1, e2, z_bsN], key 1 v oB2 oO2 om2 e1 e4 e5 e6 e7⟩
end STEPSE
