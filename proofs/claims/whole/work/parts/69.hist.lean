/-! History and snapshot. -/
def RE (P B J : Nat) (os : ob) (y : ob × ob × ob) (g : Nat → Int32) : Prop := ∃ qw qe : List Nat, RPos P B J os y.1 y.2.1 y.2.2 g qw qe
def RH (P B J : Nat) (os : ob) (oH : hst) (c0 : Int32) (g5 : Nat → Int32) : Prop := ∃ c n : Nat, c ≤ 8 ∧ n < 8 ∧ oH.1.1 2 = nI c ∧ oH.1.1 1 = nI n ∧ c0 = nI c ∧ ∀ i : Nat, i < c → RE P B J os (oH.2 ((n + 8 - c + i) % 8)) (fun j => g5 (144 * i + j))
def RN (P B J : Nat) (os : ob) (y : ob × ob × ob) (c0 c1 : Int32) (g3 : Nat → Int32) : Prop := c1 = c0 ∧ (c0 = 0 ∨ (c0 = 1 ∧ RE P B J os y g3))
def RG (P B J : Nat) (oB os op ow oe np nw ne : ob) (oH : hst) (om : ob) : Prop := RE P B J os (op, ow, oe) (om.2 1) ∧ RH P B J os oH (om.1 6) (om.2 5) ∧ RN P B J os (np, nw, ne) (om.1 7) (oB.1 10) (om.2 3)
/-- what the game's calls leave as it is -/
def zK (om om2 : ob) : Prop := (∀ i : Nat, (i = 9 ∨ i = 15 ∨ i = 16 ∨ i = 20) → om2.1 i = om.1 i) ∧ om2.2 8 = om.2 8 ∧ om2.2 19 = om.2 19
section HIST
variable {P B J J2 : Nat} {os op op2 o o2 ow oe oB om np nw ne : ob} {oH : hst} {g g2 : Nat → Int32} {q q2 qw qe : List Nat} {c0 c1 : Int32}
theorem RE.cong {y : ob × ob × ob} (h : RE P B J os y g) (k : ∀ i : Nat, i < 144 → g2 i = g i) : RE P B J os y g2 := by
  obtain ⟨qw, qe, h⟩ := h
  exact ⟨qw, qe, h.cong k⟩
theorem RE.mono {y : ob × ob × ob} (h : RE P B J os y g) (hJ : J ≤ J2) : RE P B J2 os y g := by
  obtain ⟨qw, qe, h⟩ := h
  exact ⟨qw, qe, h.mono hJ⟩
theorem RH.mono (h : RH P B J os oH c0 g) (hJ : J ≤ J2) : RH P B J2 os oH c0 g := by
  obtain ⟨c, n, h1, h2, h3, h4, h5, h6⟩ := h
  exact ⟨c, n, h1, h2, h3, h4, h5, fun i hi => (h6 i hi).mono hJ⟩
theorem RN.mono {y : ob × ob × ob} (h : RN P B J os y c0 c1 g) (hJ : J ≤ J2) : RN P B J2 os y c0 c1 g := ⟨h.1, h.2.imp id (fun q => ⟨q.1, q.2.mono hJ⟩)⟩
theorem z_n8 {n : Nat} (h : n < 8) : (if 8 ≤ nI n + (1 : Int32) then 0 else nI n + 1) = nI ((n + 1) % 8) := by
  rw [nI_1]
  by_cases c : n = 7
  · subst c; rfl
  · rw [if_neg (show ¬ (8 : Int32) ≤ nI (n + 1) from nI_ge (a := n + 1) (b := 8) (by omega) (by omega)), Nat.mod_eq_of_lt (by omega)]
theorem z_c8 {c : Nat} (h : c ≤ 8) : (if nI c + (1 : Int32) < 8 then nI c + 1 else 8) = nI (if c = 8 then 8 else c + 1) := by
  rw [nI_1]
  by_cases q : c = 8
  · subst q; rfl
  · rw [if_neg q]
    by_cases r : c = 7
    · subst r; rfl
    · rw [if_pos (show nI (c + 1) < (8 : Int32) from nI_lt (a := c + 1) (b := 8) (by omega) (by omega))]
theorem z_n7 {n : Nat} (h : n < 8) : (if nI n ≤ (0 : Int32) then 7 else nI n - 1) = nI ((n + 7) % 8) := by
  cases n with
  | zero => rfl
  | succ n =>
    rw [if_neg (nI_nle (by omega) (by omega)), nI_pred, show n + 1 + 7 = n + 8 by omega, Nat.add_mod_right, Nat.mod_eq_of_lt (by omega)]
theorem C_push (h : RPos P B J os op ow oe g qw qe) {n : Nat} (hn : n < 8) (e1 : oH.1.1 1 = nI n) {c : Nat} (hc : c ≤ 8) (e2 : oH.1.1 2 = nI c) : ∃ (oH2 : hst) (y : ob × ob × ob), F_X1_push oH op ow oe = some oH2 ∧ oH2.1.1 1 = nI ((n + 1) % 8) ∧ oH2.1.1 2 = nI (if c = 8 then 8 else c + 1) ∧ oH2.2 = va_up oH.2 n y ∧ RPos P B J os y.1 y.2.1 y.2.2 g qw qe := by
  obtain ⟨y, y1, y2⟩ := C_copy (op := (oH.2 n).1) (ow := (oH.2 n).2.1) (oe := (oH.2 n).2.2) h
  refine ⟨((upd (upd oH.1.1 1 (nI ((n + 1) % 8))) 2 (nI (if c = 8 then 8 else c + 1)), oH.1.2), va_up oH.2 n y), y, ?_, ?_, ?_, rfl, y2⟩
  · simp only [F_X1_push, e1, e2]
    rw [if_neg (nI_pos (by omega)), if_neg (nI_ge (by omega) (by omega)), nI_clamp (by omega), y1, z_bsN, z_n8 hn, z_c8 hc]
  · dsimp only; rw [z_un (by omega), z_us]
  · dsimp only; rw [z_us]
theorem X_push (hH : RH P B J os oH (om.1 6) (om.2 5)) (h : RPos P B J os op ow oe (om.2 1) qw qe) : ∃ (oH2 : hst) (om2 : ob), F_X1_push oH op ow oe = some oH2 ∧ F_X9_keeps om = some om2 ∧ RH P B J os oH2 (om2.1 6) (om2.2 5) ∧ (∀ i : Nat, i ≠ 6 → om2.1 i = om.1 i) ∧ ∀ r : Nat, r ≠ 5 → om2.2 r = om.2 r := by
  obtain ⟨c, n, h1, h2, h3, h4, h5, h6⟩ := hH
  obtain ⟨oH2, y, p1, p2, p3, p4, p5⟩ := C_push h h2 h4 h1 h3
  have hy : RE P B J os y (om.2 1) := ⟨qw, qe, p5⟩
  by_cases c8 : c = 8
  · subst c8
    refine ⟨oH2, (upd (upd om.1 6 (nI 7)) 6 (nI 8), va_up (va_up om.2 5 (z_shl (om.2 5) 144 1008)) 5 (z_cpy (om.2 1) (z_shl (om.2 5) 144 1008) 0 1008 144)), p1, ?_, ⟨8, (n + 1) % 8, by omega, by omega, p3, p2, ?_, fun i hi => ?_⟩, fun i hi => ?_, fun r hr => ?_⟩
    · have hc := M_cp_1_5 (om := (upd om.1 6 (nI 7), va_up om.2 5 (z_shl (om.2 5) 144 1008))) (s := 0) (d := 1008) (n := 144) (by omega) (by omega)
      have hc : F_X9_copies_1_5 (upd om.1 6 (nI 7), va_up om.2 5 (z_shl (om.2 5) 144 1008)) 0 (144 * nI 7) 144 = _ := hc
      simp only [F_X9_keeps]
      rw [if_pos (show om.1 6 = 8 from h5), M_cp_5_5]
      simp only [z_bsN, z_leN, h5, show nI 8 - 1 = nI 7 from rfl, z_us, hc, z_vn (show (1 : Nat) ≠ 5 by omega), z_vs, show nI 7 + 1 = nI 8 from rfl]
    · dsimp only; rw [z_us]
    · dsimp only
      rw [p4, z_vs]
      by_cases q : i = 7
      · subst q
        rw [show ((n + 1) % 8 + 8 - 8 + 7) % 8 = n by omega, z_vs]
        refine hy.cong (fun j hj => ?_)
        rw [z_cpy, if_pos ⟨by omega, by omega⟩, show 0 + (144 * 7 + j - 1008) = j by omega]
      · rw [z_vn (by omega), show ((n + 1) % 8 + 8 - 8 + i) % 8 = (n + 8 - 8 + (i + 1)) % 8 by omega]
        refine (h6 (i + 1) (by omega)).cong (fun j hj => ?_)
        rw [z_cpy, if_neg (by omega), z_shl, if_pos (by omega), show 144 + (144 * i + j) = 144 * (i + 1) + j by omega]
    · dsimp only; rw [z_un hi, z_un hi]
    · dsimp only; rw [z_vn hr, z_vn hr]
  · refine ⟨oH2, (upd om.1 6 (nI (c + 1)), va_up om.2 5 (z_cpy (om.2 1) (om.2 5) 0 (144 * c) 144)), p1, ?_, ⟨c + 1, (n + 1) % 8, by omega, by omega, by rw [p3, if_neg c8], p2, ?_, fun i hi => ?_⟩, fun i hi => ?_, fun r hr => ?_⟩
    · have hc := M_cp_1_5 (om := om) (s := 0) (d := 144 * c) (n := 144) (by omega) (by omega)
      rw [← z_mul] at hc
      have hc : F_X9_copies_1_5 om 0 (144 * nI c) 144 = _ := hc
      simp only [F_X9_keeps]
      rw [if_neg (show ¬ om.1 6 = 8 from fun q => c8 ((nI_eq (by omega) (by omega)).mp (h5.symm.trans q : nI c = nI 8))), z_bsN, h5, hc]
      simp only [z_bsN, z_leN, h5, nI_1]
    · dsimp only; rw [z_us]
    · dsimp only
      rw [p4, z_vs]
      by_cases q : i = c
      · subst q
        rw [show ((n + 1) % 8 + 8 - (i + 1) + i) % 8 = n by omega, z_vs]
        refine hy.cong (fun j hj => ?_)
        rw [z_cpy, if_pos ⟨by omega, by omega⟩, show 0 + (144 * i + j - 144 * i) = j by omega]
      · rw [z_vn (by omega), show ((n + 1) % 8 + 8 - (c + 1) + i) % 8 = (n + 8 - c + i) % 8 by omega]
        refine (h6 i (by omega)).cong (fun j hj => ?_)
        rw [z_cpy, if_neg (by omega)]
    · dsimp only; rw [z_un hi]
    · dsimp only; rw [z_vn hr]
theorem X_undo (h : RG P B J oB os op ow oe np nw ne oH om) : (∃ b : Int32, F_X8_undo oB op ow oe oH = some (3, 0, op, ow, oe, oH) ∧ F_X9_undo om = some (b, (upd om.1 0 1, om.2))) ∨ ∃ (v : Int32) (op2 ow2 oe2 om2 : ob) (oH2 : hst), F_X8_undo oB op ow oe oH = some (0, v, op2, ow2, oe2, oH2) ∧ F_X9_undo om = some (v, om2) ∧ om2.1 0 = 0 ∧ RG P B J oB os op2 ow2 oe2 np nw ne oH2 om2 ∧ zK om om2 := by
  obtain ⟨hE, ⟨c, n, h1, h2, h3, h4, h5, h6⟩, hN⟩ := h
  cases c with
  | zero =>
    refine Or.inl ⟨0, ?_, ?_⟩
    · simp only [F_X8_undo, h3]
      rfl
    · simp only [F_X9_undo, z_leN]
      rw [if_pos (by rw [z_un (by omega), h5]; exact Int32.le_refl _), M_f0 (om := (upd om.1 0 0, om.2)) (c := 1) z_h0 (by decide)]
      simp only [z_bsN, z_uu]
      rfl
  | succ c =>
    have hl := h6 c (by omega)
    rw [show (n + 8 - (c + 1) + c) % 8 = (n + 7) % 8 by omega] at hl
    obtain ⟨qw2, qe2, hl⟩ := hl
    obtain ⟨y, y1, y2⟩ := C_copy (op := op) (ow := ow) (oe := oe) hl
    have hc := M_cp_5_1 (om := (upd (upd om.1 0 0) 6 (nI c), om.2)) (s := 144 * c) (d := 0) (n := 144) (by omega) (by omega)
    rw [← z_mul] at hc
    have hc : F_X9_copies_5_1 (upd (upd om.1 0 0) 6 (nI c), om.2) (144 * nI c) 0 144 = _ := hc
    refine Or.inr ⟨nI c, y.1, y.2.1, y.2.2, (upd (upd om.1 0 0) 6 (nI c), va_up om.2 1 (z_cpy (om.2 5) (om.2 1) (144 * c) 0 144)), ((upd (upd oH.1.1 1 (nI ((n + 7) % 8))) 2 (nI c), oH.1.2), oH.2), ?_, ?_, ?_, ⟨?_, ?_, ?_⟩, ?_⟩
    · simp only [F_X8_undo, h3, F_X1_pop, h4, z_leN, z_n7 h2]
      rw [if_neg (nI_ne0 (by omega) (by omega)), if_neg (nI_pos (by omega)), if_neg (nI_ge (by omega) (by omega)), nI_clamp (by omega), y1]
      simp only [z_bsN, nI_pred, z_us]
    · simp only [F_X9_undo, z_leN]
      rw [if_neg (by rw [z_un (by omega), h5]; exact nI_nle (by omega) (by omega)), M_f1 (om := (upd om.1 0 0, om.2)) z_h0]
      simp only [z_bsN, if_true, z_un (show (6 : Nat) ≠ 0 by omega), h5, nI_pred, z_us, hc]
    · dsimp only; rw [z_un (by omega), z_us]
    · refine ⟨qw2, qe2, y2.cong (fun j hj => ?_)⟩
      dsimp only
      rw [z_vs, z_cpy, if_pos ⟨by omega, by omega⟩]
      rfl
    · refine ⟨c, (n + 7) % 8, by omega, by omega, by dsimp only; rw [z_us], by dsimp only; rw [z_un (by omega), z_us], by dsimp only; rw [z_us], fun i hi => ?_⟩
      dsimp only
      rw [z_vn (by omega), show ((n + 7) % 8 + 8 - c + i) % 8 = (n + 8 - (c + 1) + i) % 8 by omega]
      exact h6 i (by omega)
    · dsimp only
      rw [z_un (by omega), z_un (by omega), z_vn (by omega)]
      exact hN
    · refine ⟨fun i hi => ?_, ?_, ?_⟩
      · dsimp only; rw [z_un (by omega), z_un (by omega)]
      · dsimp only; rw [z_vn (by omega)]
      · dsimp only; rw [z_vn (by omega)]
theorem X_save (h : RG P B J oB os op ow oe np nw ne oH om) : ∃ (np2 nw2 ne2 om2 : ob), F_X8_saveSnapshot oB op ow oe np nw ne = some ((upd oB.1 10 1, oB.2), np2, nw2, ne2) ∧ F_X9_saveSnapshot om = some om2 ∧ om2.1 0 = 0 ∧ RG P B J (upd oB.1 10 1, oB.2) os op ow oe np2 nw2 ne2 oH om2 ∧ zK om om2 := by
  obtain ⟨⟨qw, qe, hE⟩, hH, hN⟩ := h
  obtain ⟨y, y1, y2⟩ := C_copy (op := np) (ow := nw) (oe := ne) hE
  have hc := M_cp_1_3 (om := (upd om.1 0 0, om.2)) (s := 0) (d := 0) (n := 144) (by omega) (by omega)
  have hc : F_X9_copies_1_3 (upd om.1 0 0, om.2) 0 0 144 = _ := hc
  refine ⟨y.1, y.2.1, y.2.2, (upd (upd om.1 0 0) 7 1, va_up om.2 3 (z_cpy (om.2 1) (om.2 3) 0 0 144)), ?_, ?_, ?_, ⟨?_, ?_, ?_⟩, ?_⟩
  · simp only [F_X8_saveSnapshot, y1, z_bsN, z_leN]
  · simp only [F_X9_saveSnapshot, z_leN, hc, z_bsN]
  · dsimp only; rw [z_un (by omega), z_us]
  · refine ⟨qw, qe, ?_⟩
    dsimp only
    rw [z_vn (by omega)]
    exact hE
  · dsimp only
    rw [z_un (by omega), z_un (by omega), z_vn (by omega)]
    exact hH
  · dsimp only
    rw [z_us, z_us, z_vs]
    refine ⟨rfl, Or.inr ⟨rfl, qw, qe, y2.cong (fun j hj => z_cin0 hj)⟩⟩
  · refine ⟨fun i hi => ?_, ?_, ?_⟩
    · dsimp only; rw [z_un (by omega), z_un (by omega)]
    · dsimp only; rw [z_vn (by omega)]
    · dsimp only; rw [z_vn (by omega)]
theorem X_restore (h : RG P B J oB os op ow oe np nw ne oH om) : (∃ b : Int32, F_X8_restoreSnapshot oB op ow oe np nw ne oH = some (3, 0, op, ow, oe, oH) ∧ F_X9_restoreSnapshot om = some (b, (upd om.1 0 1, om.2))) ∨ ∃ (v : Int32) (op2 ow2 oe2 om2 : ob) (oH2 : hst), F_X8_restoreSnapshot oB op ow oe np nw ne oH = some (0, v, op2, ow2, oe2, oH2) ∧ F_X9_restoreSnapshot om = some (v, om2) ∧ om2.1 0 = 0 ∧ RG P B J oB os op2 ow2 oe2 np nw ne oH2 om2 ∧ zK om om2 := by
  obtain ⟨hE, ⟨c, n, h1, h2, h3, h4, h5, h6⟩, hN⟩ := h
  have e7 : upd om.1 0 0 7 = om.1 7 := by rw [z_un (by omega)]
  rcases hN.2 with e | ⟨e, ⟨qw, qe, hS⟩⟩
  · refine Or.inl ⟨0, ?_, ?_⟩
    · simp only [F_X8_restoreSnapshot, hN.1, e]
      rfl
    · simp only [F_X9_restoreSnapshot, z_leN]
      rw [e7, e, M_f0 (om := (upd om.1 0 0, om.2)) (c := 1) z_h0 (by decide)]
      simp only [z_bsN, z_uu]
      rfl
  · obtain ⟨y, y1, y2⟩ := C_copy (op := op) (ow := ow) (oe := oe) hS
    have hc := M_cp_3_1 (om := (upd om.1 0 0, om.2)) (s := 0) (d := 0) (n := 144) (by omega) (by omega)
    have hc : F_X9_copies_3_1 (upd om.1 0 0, om.2) 0 0 144 = _ := hc
    have hy : RPos P B J os y.1 y.2.1 y.2.2 (z_cpy (om.2 3) (om.2 1) 0 0 144) qw qe := y2.cong (fun j hj => z_cin0 hj)
    refine Or.inr ⟨y.1.1 1, y.1, y.2.1, y.2.2, (upd (upd om.1 0 0) 6 0, va_up om.2 1 (z_cpy (om.2 3) (om.2 1) 0 0 144)), ((upd oH.1.1 2 0, oH.1.2), oH.2), ?_, ?_, ?_, ⟨?_, ?_, ?_⟩, ?_⟩
    · simp only [F_X8_restoreSnapshot, hN.1, e]
      rw [if_neg (by decide), y1]
      simp only [z_bsN, F_X1_clear]
    · simp only [F_X9_restoreSnapshot, z_leN]
      rw [e7, e, M_f1 (om := (upd om.1 0 0, om.2)) z_h0]
      simp only [z_bsN, if_true, hc, z_vs, z_al0]
      rw [hy.now]
    · dsimp only; rw [z_un (by omega), z_us]
    · refine ⟨qw, qe, ?_⟩
      dsimp only
      rw [z_vs]
      exact hy
    · exact ⟨0, n, by omega, h2, by dsimp only; rw [z_us]; rfl, by dsimp only; rw [z_un (by omega)]; exact h4, by dsimp only; rw [z_us]; rfl, fun i hi => by omega⟩
    · dsimp only
      rw [z_un (by omega), z_un (by omega), z_vn (by omega)]
      exact hN
    · refine ⟨fun i hi => ?_, ?_, ?_⟩
      · dsimp only; rw [z_un (by omega), z_un (by omega)]
      · dsimp only; rw [z_vn (by omega)]
      · dsimp only; rw [z_vn (by omega)]
end HIST
