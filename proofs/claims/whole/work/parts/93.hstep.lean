/-! A round of the law, whichever it is. -/
theorem hstep_all : ∀ (j : Nat) (st : lst) (a0 a1 a2 a3 a4 a5 : Int32), j < 512 → Inv j st → ∃ st2 : lst, F_step st a0 a1 a2 a3 a4 a5 = some st2 ∧ Inv (j + 1) st2 := by
  intro j st a0 a1 a2 a3 a4 a5 hj h
  unfold F_step
  by_cases q0 : a0 &&& 63 = (0 : Int32)
  · rw [if_pos q0]; exact S_0 h hj a1 a2 a3 a4 a5
  rw [if_neg q0]
  by_cases q1 : a0 &&& 63 = (1 : Int32)
  · rw [if_pos q1]; exact S_1 h hj a1
  rw [if_neg q1]
  by_cases q2 : a0 &&& 63 = (2 : Int32)
  · rw [if_pos q2]; exact S_2 h hj 
  rw [if_neg q2]
  by_cases q3 : a0 &&& 63 = (3 : Int32)
  · rw [if_pos q3]; exact S_3 h hj 
  rw [if_neg q3]
  by_cases q4 : a0 &&& 63 = (4 : Int32)
  · rw [if_pos q4]; exact S_4 h hj 
  rw [if_neg q4]
  by_cases q5 : a0 &&& 63 = (5 : Int32)
  · rw [if_pos q5]; exact S_5 h hj 
  rw [if_neg q5]
  by_cases q6 : a0 &&& 63 = (6 : Int32)
  · rw [if_pos q6]; exact S_6 h hj 
  rw [if_neg q6]
  by_cases q7 : a0 &&& 63 = (7 : Int32)
  · rw [if_pos q7]; exact S_7 h hj a1
  rw [if_neg q7]
  by_cases q8 : a0 &&& 63 = (8 : Int32)
  · rw [if_pos q8]; exact S_8 h hj 
  rw [if_neg q8]
  by_cases q9 : a0 &&& 63 = (9 : Int32)
  · rw [if_pos q9]; exact S_9 h hj 
  rw [if_neg q9]
  by_cases q10 : a0 &&& 63 = (10 : Int32)
  · rw [if_pos q10]; exact S_10 h hj a1
  rw [if_neg q10]
  by_cases q11 : a0 &&& 63 = (11 : Int32)
  · rw [if_pos q11]; exact S_11 h hj a1
  rw [if_neg q11]
  by_cases q12 : a0 &&& 63 = (12 : Int32)
  · rw [if_pos q12]; exact S_12 h hj a1
  rw [if_neg q12]
  by_cases q13 : a0 &&& 63 = (13 : Int32)
  · rw [if_pos q13]; exact S_13 h hj a1
  rw [if_neg q13]
  by_cases q14 : a0 &&& 63 = (14 : Int32)
  · rw [if_pos q14]; exact S_14 h hj a1
  rw [if_neg q14]
  by_cases q15 : a0 &&& 63 = (15 : Int32)
  · rw [if_pos q15]; exact S_15 h hj a1
  rw [if_neg q15]
  by_cases q16 : a0 &&& 63 = (16 : Int32)
  · rw [if_pos q16]; exact S_16 h hj a1
  rw [if_neg q16]
  by_cases q17 : a0 &&& 63 = (17 : Int32)
  · rw [if_pos q17]; exact S_17 h hj a1
  rw [if_neg q17]
  by_cases q18 : a0 &&& 63 = (18 : Int32)
  · rw [if_pos q18]; exact S_18 h hj a1
  rw [if_neg q18]
  by_cases q19 : a0 &&& 63 = (19 : Int32)
  · rw [if_pos q19]; exact S_19 h hj 
  rw [if_neg q19]
  by_cases q20 : a0 &&& 63 = (20 : Int32)
  · rw [if_pos q20]; exact S_20 h hj a1 a2
  rw [if_neg q20]
  by_cases q21 : a0 &&& 63 = (21 : Int32)
  · rw [if_pos q21]; exact S_21 h hj a1
  rw [if_neg q21]
  by_cases q22 : a0 &&& 63 = (22 : Int32)
  · rw [if_pos q22]; exact S_22 h hj a1
  rw [if_neg q22]
  by_cases q23 : a0 &&& 63 = (23 : Int32)
  · rw [if_pos q23]; exact S_23 h hj a1
  rw [if_neg q23]
  by_cases q24 : a0 &&& 63 = (24 : Int32)
  · rw [if_pos q24]; exact S_24 h hj 
  rw [if_neg q24]
  by_cases q25 : a0 &&& 63 = (25 : Int32)
  · rw [if_pos q25]; exact S_25 h hj 
  rw [if_neg q25]
  by_cases q26 : a0 &&& 63 = (26 : Int32)
  · rw [if_pos q26]; exact S_26 h hj a1
  rw [if_neg q26]
  by_cases q27 : a0 &&& 63 = (27 : Int32)
  · rw [if_pos q27]; exact S_27 h hj 
  rw [if_neg q27]
  by_cases q28 : a0 &&& 63 = (28 : Int32)
  · rw [if_pos q28]; exact S_28 h hj a1
  rw [if_neg q28]
  by_cases q29 : a0 &&& 63 = (29 : Int32)
  · rw [if_pos q29]; exact S_29 h hj a1
  rw [if_neg q29]
  by_cases q30 : a0 &&& 63 = (30 : Int32)
  · rw [if_pos q30]; exact S_30 h hj a1
  rw [if_neg q30]
  by_cases q31 : a0 &&& 63 = (31 : Int32)
  · rw [if_pos q31]; exact S_31 h hj a1
  rw [if_neg q31]
  by_cases q32 : a0 &&& 63 = (32 : Int32)
  · rw [if_pos q32]; exact S_32 h hj 
  rw [if_neg q32]
  by_cases q33 : a0 &&& 63 = (33 : Int32)
  · rw [if_pos q33]; exact S_33 h hj 
  rw [if_neg q33]
  by_cases q34 : a0 &&& 63 = (34 : Int32)
  · rw [if_pos q34]; exact S_34 h hj a1
  rw [if_neg q34]
  by_cases q35 : a0 &&& 63 = (35 : Int32)
  · rw [if_pos q35]; exact S_35 h hj a1 a2
  rw [if_neg q35]
  by_cases q36 : a0 &&& 63 = (36 : Int32)
  · rw [if_pos q36]; exact S_36 h hj a1
  rw [if_neg q36]
  by_cases q37 : a0 &&& 63 = (37 : Int32)
  · rw [if_pos q37]; exact S_37 h hj 
  rw [if_neg q37]
  by_cases q38 : a0 &&& 63 = (38 : Int32)
  · rw [if_pos q38]; exact S_38 h hj a1
  rw [if_neg q38]
  by_cases q39 : a0 &&& 63 = (39 : Int32)
  · rw [if_pos q39]; exact S_39 h hj 
  rw [if_neg q39]
  by_cases q40 : a0 &&& 63 = (40 : Int32)
  · rw [if_pos q40]; exact S_40 h hj a1
  rw [if_neg q40]
  by_cases q41 : a0 &&& 63 = (41 : Int32)
  · rw [if_pos q41]; exact S_41 h hj a1
  rw [if_neg q41]
  by_cases q42 : a0 &&& 63 = (42 : Int32)
  · rw [if_pos q42]; exact S_42 h hj a1
  rw [if_neg q42]
  by_cases q43 : a0 &&& 63 = (43 : Int32)
  · rw [if_pos q43]; exact S_43 h hj a1
  rw [if_neg q43]
  by_cases q44 : a0 &&& 63 = (44 : Int32)
  · rw [if_pos q44]; exact S_44 h hj a1
  rw [if_neg q44]
  by_cases q45 : a0 &&& 63 = (45 : Int32)
  · rw [if_pos q45]; exact S_45 h hj 
  rw [if_neg q45]
  by_cases q46 : a0 &&& 63 = (46 : Int32)
  · rw [if_pos q46]; exact S_46 h hj a1 a2
  rw [if_neg q46]
  by_cases q47 : a0 &&& 63 = (47 : Int32)
  · rw [if_pos q47]; exact S_47 h hj a1 a2
  rw [if_neg q47]
  by_cases q48 : a0 &&& 63 = (48 : Int32)
  · rw [if_pos q48]; exact S_48 h hj a1 a2
  rw [if_neg q48]
  by_cases q49 : a0 &&& 63 = (49 : Int32)
  · rw [if_pos q49]; exact S_49 h hj a1 a2
  rw [if_neg q49]
  by_cases q50 : a0 &&& 63 = (50 : Int32)
  · rw [if_pos q50]; exact S_50 h hj a1 a2
  rw [if_neg q50]
  by_cases q51 : a0 &&& 63 = (51 : Int32)
  · rw [if_pos q51]; exact S_51 h hj a1 a2
  rw [if_neg q51]
  by_cases q52 : a0 &&& 63 = (52 : Int32)
  · rw [if_pos q52]; exact S_52 h hj a1
  rw [if_neg q52]
  by_cases q53 : a0 &&& 63 = (53 : Int32)
  · rw [if_pos q53]; exact S_53 h hj a1 a2
  rw [if_neg q53]
  by_cases q54 : a0 &&& 63 = (54 : Int32)
  · rw [if_pos q54]; exact S_54 h hj a1
  rw [if_neg q54]
  by_cases q55 : a0 &&& 63 = (55 : Int32)
  · rw [if_pos q55]; exact S_55 h hj a1
  rw [if_neg q55]
  by_cases q56 : a0 &&& 63 = (56 : Int32)
  · rw [if_pos q56]; exact S_56 h hj a1
  rw [if_neg q56]
  by_cases q57 : a0 &&& 63 = (57 : Int32)
  · rw [if_pos q57]; exact S_57 h hj a1
  rw [if_neg q57]
  by_cases q58 : a0 &&& 63 = (58 : Int32)
  · rw [if_pos q58]; exact S_58 h hj 
  rw [if_neg q58]
  by_cases q59 : a0 &&& 63 = (59 : Int32)
  · rw [if_pos q59]; exact S_59 h hj 
  rw [if_neg q59]
  by_cases q60 : a0 &&& 63 = (60 : Int32)
  · rw [if_pos q60]; exact S_60 h hj 
  rw [if_neg q60]
  by_cases q61 : a0 &&& 63 = (61 : Int32)
  · rw [if_pos q61]; exact S_61 h hj 
  rw [if_neg q61]
  obtain ⟨P, B, hX, hG, hO⟩ := h
  exact ⟨st, rfl, P, B, hX, hG.mono (by omega), hO⟩
