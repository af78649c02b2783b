/-! The law answers true, whatever its script holds. -/
theorem init_some : (F_X8_init_seg ob0 ob0 ob0 ob0 ob0).isSome = true := by decide +kernel
theorem law_main : ∃ y8 : ob × ob × ob × ob, F_X8_init_seg ob0 ob0 ob0 ob0 ob0 = some y8 ∧ ∀ k : Nat → Nat, F_law_seg k ob0 ob0 obt0 ob0 y8.1 y8.2.1 y8.2.2.1 y8.2.2.2 hst0 = some 1 := by
  obtain ⟨y8, h8⟩ := Option.isSome_iff_exists.mp init_some
  refine ⟨y8, h8, fun k => ?_⟩
  obtain ⟨P, B, C, om2, oB2, ot2, od2, os2, op2, ow2, oe2, oH2, g, e, hm, hr, hx, g0⟩ := L_loads (k := k) (om := ob0) (oB := ob0) (ot := obt0) (od := ob0) (os := y8.1) (op := y8.2.1) (ow := y8.2.2.1) (oe := y8.2.2.2) (oH := hst0) rfl rfl
  have hl := LL (k := k) (oB := oB2) (ot := ot2) (od := od2) hm 16 3 100000 0 0 op2 ow2 oe2 oH2 g [] [] (by omega) (by omega) (by omega) (by omega) hr hx g0
  have hl : F_law_seg_36 k (nI C) 100000 om2 oB2 ot2 od2 os2 op2 ow2 oe2 oH2 3 = some 1 := hl
  simp only [F_law_seg, e, z_bsN]
  rw [if_neg (by decide), A_coins hr hx hm, z_bsN]
  exact hl
