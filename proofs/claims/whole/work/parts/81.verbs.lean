/-! A script read from a text. -/
def z_l1 (z : Nat) : Int32 := if z = 8 then 1 else 0
def z_h1 (z : Nat) : Int32 := if z = 8 then 50 else 9
def z_l2 (z : Nat) : Int32 := ([1, 1, 0, 0, 0, 0, 0, 0, 0] : List Int32).getD z 0
def z_h2 (z : Nat) : Int32 := ([999, 999, 9, 9, 9, 99, 0, 40, 0] : List Int32).getD z 0
theorem C_lw : ∀ z : Nat, z < 9 → F_X7_lowest z 0 = some (z_l1 z) ∧ F_X7_highest z 0 = some (z_h1 z) ∧ (rx_vt 1 z ≤ 1 ↔ (z = 6 ∨ z = 8)) ∧ (z ≠ 6 → z ≠ 8 → F_X7_lowest z 1 = some (z_l2 z) ∧ F_X7_highest z 1 = some (z_h2 z)) ∧ z_h1 z < 1000 ∧ z_h2 z < 1000 := by decide
section SCRIPT
variable {ot om ot2 om2 ot3 om3 : ob} {oc : obv} {E n : Nat}
theorem C_sp0 {k fu : Nat} (hk : k < 9) (h : F_X6_isAtWord ot (18 + k) = some 0) : F_X7_spelledIn_2 ot (fu + 1) (nI k) = F_X7_spelledIn_2 ot fu (nI (k + 1)) := by
  rw [F_X7_spelledIn_2, z_ig hk (by omega)]
  unfold rx_vix
  rw [nI_clamp (by omega), if_pos ⟨nI_pos' (by omega), hk⟩]
  simp only [z_bsN, h, if_true, nI_1]
theorem C_sp1 {k fu : Nat} (hk : k < 9) (h : F_X6_isAtWord ot (18 + k) = some 1) : F_X7_spelledIn_2 ot (fu + 1) (nI k) = some (some k) := by
  rw [F_X7_spelledIn_2, z_ig hk (by omega)]
  unfold rx_vix
  rw [nI_clamp (by omega), if_pos ⟨nI_pos' (by omega), hk⟩]
  simp only [z_bsN, h]
  rw [if_neg (by decide)]
theorem T_verb (h : T2 E ot om) : (F_X7_spelledIn ot = some none ∧ F_X9_orderHere om = some (-1)) ∨ ∃ z : Nat, z < 9 ∧ F_X7_spelledIn ot = some (some z) ∧ F_X9_orderHere om = some (nI z) := by
  obtain ⟨w0, hw0, c0, m0⟩ := T_is h 18
  rcases hw0 with rfl | rfl
  rotate_left
  · refine Or.inr ⟨0, by omega, ?_, ?_⟩
    · show F_X7_spelledIn_2 ot 100000 (nI 0) = _
      rw [show F_X7_spelledIn_2 ot 100000 (nI 0) = _ from C_sp1 (k := 0) (fu := 99999) (by omega) c0]
    · simp only [F_X9_orderHere, m0, z_bsN, if_true]
      rfl
  obtain ⟨w1, hw1, c1, m1⟩ := T_is h 19
  rcases hw1 with rfl | rfl
  rotate_left
  · refine Or.inr ⟨1, by omega, ?_, ?_⟩
    · show F_X7_spelledIn_2 ot 100000 (nI 0) = _
      rw [show F_X7_spelledIn_2 ot 100000 (nI 0) = _ from C_sp0 (k := 0) (fu := 99999) (by omega) c0, show F_X7_spelledIn_2 ot 99999 (nI 1) = _ from C_sp1 (k := 1) (fu := 99998) (by omega) c1]
    · simp only [F_X9_orderHere, m0, m1, z_bsN, if_true]
      rfl
  obtain ⟨w2, hw2, c2, m2⟩ := T_is h 20
  rcases hw2 with rfl | rfl
  rotate_left
  · refine Or.inr ⟨2, by omega, ?_, ?_⟩
    · show F_X7_spelledIn_2 ot 100000 (nI 0) = _
      rw [show F_X7_spelledIn_2 ot 100000 (nI 0) = _ from C_sp0 (k := 0) (fu := 99999) (by omega) c0, show F_X7_spelledIn_2 ot 99999 (nI 1) = _ from C_sp0 (k := 1) (fu := 99998) (by omega) c1, show F_X7_spelledIn_2 ot 99998 (nI 2) = _ from C_sp1 (k := 2) (fu := 99997) (by omega) c2]
    · simp only [F_X9_orderHere, m0, m1, m2, z_bsN, if_true]
      rfl
  obtain ⟨w3, hw3, c3, m3⟩ := T_is h 21
  rcases hw3 with rfl | rfl
  rotate_left
  · refine Or.inr ⟨3, by omega, ?_, ?_⟩
    · show F_X7_spelledIn_2 ot 100000 (nI 0) = _
      rw [show F_X7_spelledIn_2 ot 100000 (nI 0) = _ from C_sp0 (k := 0) (fu := 99999) (by omega) c0, show F_X7_spelledIn_2 ot 99999 (nI 1) = _ from C_sp0 (k := 1) (fu := 99998) (by omega) c1, show F_X7_spelledIn_2 ot 99998 (nI 2) = _ from C_sp0 (k := 2) (fu := 99997) (by omega) c2, show F_X7_spelledIn_2 ot 99997 (nI 3) = _ from C_sp1 (k := 3) (fu := 99996) (by omega) c3]
    · simp only [F_X9_orderHere, m0, m1, m2, m3, z_bsN, if_true]
      rfl
  obtain ⟨w4, hw4, c4, m4⟩ := T_is h 22
  rcases hw4 with rfl | rfl
  rotate_left
  · refine Or.inr ⟨4, by omega, ?_, ?_⟩
    · show F_X7_spelledIn_2 ot 100000 (nI 0) = _
      rw [show F_X7_spelledIn_2 ot 100000 (nI 0) = _ from C_sp0 (k := 0) (fu := 99999) (by omega) c0, show F_X7_spelledIn_2 ot 99999 (nI 1) = _ from C_sp0 (k := 1) (fu := 99998) (by omega) c1, show F_X7_spelledIn_2 ot 99998 (nI 2) = _ from C_sp0 (k := 2) (fu := 99997) (by omega) c2, show F_X7_spelledIn_2 ot 99997 (nI 3) = _ from C_sp0 (k := 3) (fu := 99996) (by omega) c3, show F_X7_spelledIn_2 ot 99996 (nI 4) = _ from C_sp1 (k := 4) (fu := 99995) (by omega) c4]
    · simp only [F_X9_orderHere, m0, m1, m2, m3, m4, z_bsN, if_true]
      rfl
  obtain ⟨w5, hw5, c5, m5⟩ := T_is h 23
  rcases hw5 with rfl | rfl
  rotate_left
  · refine Or.inr ⟨5, by omega, ?_, ?_⟩
    · show F_X7_spelledIn_2 ot 100000 (nI 0) = _
      rw [show F_X7_spelledIn_2 ot 100000 (nI 0) = _ from C_sp0 (k := 0) (fu := 99999) (by omega) c0, show F_X7_spelledIn_2 ot 99999 (nI 1) = _ from C_sp0 (k := 1) (fu := 99998) (by omega) c1, show F_X7_spelledIn_2 ot 99998 (nI 2) = _ from C_sp0 (k := 2) (fu := 99997) (by omega) c2, show F_X7_spelledIn_2 ot 99997 (nI 3) = _ from C_sp0 (k := 3) (fu := 99996) (by omega) c3, show F_X7_spelledIn_2 ot 99996 (nI 4) = _ from C_sp0 (k := 4) (fu := 99995) (by omega) c4, show F_X7_spelledIn_2 ot 99995 (nI 5) = _ from C_sp1 (k := 5) (fu := 99994) (by omega) c5]
    · simp only [F_X9_orderHere, m0, m1, m2, m3, m4, m5, z_bsN, if_true]
      rfl
  obtain ⟨w6, hw6, c6, m6⟩ := T_is h 24
  rcases hw6 with rfl | rfl
  rotate_left
  · refine Or.inr ⟨6, by omega, ?_, ?_⟩
    · show F_X7_spelledIn_2 ot 100000 (nI 0) = _
      rw [show F_X7_spelledIn_2 ot 100000 (nI 0) = _ from C_sp0 (k := 0) (fu := 99999) (by omega) c0, show F_X7_spelledIn_2 ot 99999 (nI 1) = _ from C_sp0 (k := 1) (fu := 99998) (by omega) c1, show F_X7_spelledIn_2 ot 99998 (nI 2) = _ from C_sp0 (k := 2) (fu := 99997) (by omega) c2, show F_X7_spelledIn_2 ot 99997 (nI 3) = _ from C_sp0 (k := 3) (fu := 99996) (by omega) c3, show F_X7_spelledIn_2 ot 99996 (nI 4) = _ from C_sp0 (k := 4) (fu := 99995) (by omega) c4, show F_X7_spelledIn_2 ot 99995 (nI 5) = _ from C_sp0 (k := 5) (fu := 99994) (by omega) c5, show F_X7_spelledIn_2 ot 99994 (nI 6) = _ from C_sp1 (k := 6) (fu := 99993) (by omega) c6]
    · simp only [F_X9_orderHere, m0, m1, m2, m3, m4, m5, m6, z_bsN, if_true]
      rfl
  obtain ⟨w7, hw7, c7, m7⟩ := T_is h 25
  rcases hw7 with rfl | rfl
  rotate_left
  · refine Or.inr ⟨7, by omega, ?_, ?_⟩
    · show F_X7_spelledIn_2 ot 100000 (nI 0) = _
      rw [show F_X7_spelledIn_2 ot 100000 (nI 0) = _ from C_sp0 (k := 0) (fu := 99999) (by omega) c0, show F_X7_spelledIn_2 ot 99999 (nI 1) = _ from C_sp0 (k := 1) (fu := 99998) (by omega) c1, show F_X7_spelledIn_2 ot 99998 (nI 2) = _ from C_sp0 (k := 2) (fu := 99997) (by omega) c2, show F_X7_spelledIn_2 ot 99997 (nI 3) = _ from C_sp0 (k := 3) (fu := 99996) (by omega) c3, show F_X7_spelledIn_2 ot 99996 (nI 4) = _ from C_sp0 (k := 4) (fu := 99995) (by omega) c4, show F_X7_spelledIn_2 ot 99995 (nI 5) = _ from C_sp0 (k := 5) (fu := 99994) (by omega) c5, show F_X7_spelledIn_2 ot 99994 (nI 6) = _ from C_sp0 (k := 6) (fu := 99993) (by omega) c6, show F_X7_spelledIn_2 ot 99993 (nI 7) = _ from C_sp1 (k := 7) (fu := 99992) (by omega) c7]
    · simp only [F_X9_orderHere, m0, m1, m2, m3, m4, m5, m6, m7, z_bsN, if_true]
      rfl
  obtain ⟨w8, hw8, c8, m8⟩ := T_is h 26
  rcases hw8 with rfl | rfl
  rotate_left
  · refine Or.inr ⟨8, by omega, ?_, ?_⟩
    · show F_X7_spelledIn_2 ot 100000 (nI 0) = _
      rw [show F_X7_spelledIn_2 ot 100000 (nI 0) = _ from C_sp0 (k := 0) (fu := 99999) (by omega) c0, show F_X7_spelledIn_2 ot 99999 (nI 1) = _ from C_sp0 (k := 1) (fu := 99998) (by omega) c1, show F_X7_spelledIn_2 ot 99998 (nI 2) = _ from C_sp0 (k := 2) (fu := 99997) (by omega) c2, show F_X7_spelledIn_2 ot 99997 (nI 3) = _ from C_sp0 (k := 3) (fu := 99996) (by omega) c3, show F_X7_spelledIn_2 ot 99996 (nI 4) = _ from C_sp0 (k := 4) (fu := 99995) (by omega) c4, show F_X7_spelledIn_2 ot 99995 (nI 5) = _ from C_sp0 (k := 5) (fu := 99994) (by omega) c5, show F_X7_spelledIn_2 ot 99994 (nI 6) = _ from C_sp0 (k := 6) (fu := 99993) (by omega) c6, show F_X7_spelledIn_2 ot 99993 (nI 7) = _ from C_sp0 (k := 7) (fu := 99992) (by omega) c7, show F_X7_spelledIn_2 ot 99992 (nI 8) = _ from C_sp1 (k := 8) (fu := 99991) (by omega) c8]
    · simp only [F_X9_orderHere, m0, m1, m2, m3, m4, m5, m6, m7, m8, z_bsN, if_true]
      rfl
  refine Or.inl ⟨?_, ?_⟩
  · show F_X7_spelledIn_2 ot 100000 (nI 0) = _
    rw [show F_X7_spelledIn_2 ot 100000 (nI 0) = _ from C_sp0 (k := 0) (fu := 99999) (by omega) c0, show F_X7_spelledIn_2 ot 99999 (nI 1) = _ from C_sp0 (k := 1) (fu := 99998) (by omega) c1, show F_X7_spelledIn_2 ot 99998 (nI 2) = _ from C_sp0 (k := 2) (fu := 99997) (by omega) c2, show F_X7_spelledIn_2 ot 99997 (nI 3) = _ from C_sp0 (k := 3) (fu := 99996) (by omega) c3, show F_X7_spelledIn_2 ot 99996 (nI 4) = _ from C_sp0 (k := 4) (fu := 99995) (by omega) c4, show F_X7_spelledIn_2 ot 99995 (nI 5) = _ from C_sp0 (k := 5) (fu := 99994) (by omega) c5, show F_X7_spelledIn_2 ot 99994 (nI 6) = _ from C_sp0 (k := 6) (fu := 99993) (by omega) c6, show F_X7_spelledIn_2 ot 99993 (nI 7) = _ from C_sp0 (k := 7) (fu := 99992) (by omega) c7, show F_X7_spelledIn_2 ot 99992 (nI 8) = _ from C_sp0 (k := 8) (fu := 99991) (by omega) c8]
    rw [show F_X7_spelledIn_2 ot 99991 (nI (8 + 1)) = F_X7_spelledIn_2 ot (99990 + 1) (nI 9) from rfl, F_X7_spelledIn_2, if_pos (Int32.le_refl _)]
  · simp only [F_X9_orderHere, m0, m1, m2, m3, m4, m5, m6, m7, m8, z_bsN, if_true]
theorem M_sec {z : Nat} (hz : z < 9) : (z ≠ 6 → z ≠ 8 → F_X9_second om (nI z) = F_X9_number0 om (z_l2 z) (z_h2 z)) ∧ ((z = 6 ∨ z = 8) → F_X9_second om (nI z) = some (0, om)) := by
  have e : ∀ a b : Int32, ((F_X9_number0 om a b).bind fun y => some (y.1, y.2)) = F_X9_number0 om a b := by
    intro a b
    cases F_X9_number0 om a b <;> rfl
  have : z = 0 ∨ z = 1 ∨ z = 2 ∨ z = 3 ∨ z = 4 ∨ z = 5 ∨ z = 6 ∨ z = 7 ∨ z = 8 := by omega
  unfold F_X9_second
  simp only [e]
  rcases this with rfl | rfl | rfl | rfl | rfl | rfl | rfl | rfl | rfl
  · exact ⟨fun _ _ => rfl, fun q => by omega⟩
  · exact ⟨fun _ _ => rfl, fun q => by omega⟩
  · exact ⟨fun _ _ => rfl, fun q => by omega⟩
  · exact ⟨fun _ _ => rfl, fun q => by omega⟩
  · exact ⟨fun _ _ => rfl, fun q => by omega⟩
  · exact ⟨fun _ _ => rfl, fun q => by omega⟩
  · exact ⟨fun q => absurd rfl q, fun _ => rfl⟩
  · exact ⟨fun _ _ => rfl, fun q => by omega⟩
  · exact ⟨fun _ q => absurd rfl q, fun _ => rfl⟩
end SCRIPT
