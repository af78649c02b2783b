/-! Forecasts: the model tries on its own row and takes it back. -/
/-- as before, but for the row aside and what was thrown -/
def zS (om om2 : ob) : Prop := om2.1 = upd om.1 0 0 ∧ (∀ i : Nat, i < 144 → om2.2 1 i = om.2 1 i) ∧ ∀ r : Nat, r ≠ 1 → r ≠ 4 → om2.2 r = om.2 r
theorem z_cin0 {f h : Nat → Int32} {n i : Nat} (hi : i < n) : z_cpy f h 0 0 n i = f i := by
  rw [z_cpy, if_pos ⟨by omega, by omega⟩]
  congr 1
  omega
section FORE
variable {P B J J2 : Nat} {os op op2 o o2 ow oe oB om ofp ofw ofe : ob} {g g2 : Nat → Int32} {q q2 qw qe : List Nat} {e f : Int32}
theorem RPos.cong (h : RPos P B J os op ow oe g qw qe) (k : ∀ i : Nat, i < 144 → g2 i = g i) : RPos P B J os op ow oe g2 qw qe := by
  obtain ⟨hok, hrs, hrp, hrk, hw, he⟩ := h
  have hP := hok.1.1
  have hB := hok.1.2.1
  refine ⟨⟨hok.1.c (k _ (by omega)) (k _ (by omega)), hok.2.1.c (Nat.le_refl _) (k _ (by omega)) (fun c hc => k _ (by omega)), hok.2.2.1.c (k _ (by omega)) (k _ (by omega)), hok.2.2.2.1.c (Nat.le_refl _) (k _ (by omega)) (fun c hc => ⟨k _ (by omega), k _ (by omega), k _ (by omega), k _ (by omega)⟩), hok.2.2.2.2.1.c (fun c hc => ⟨k _ (by omega), k _ (by omega)⟩), hok.2.2.2.2.2.1.c (fun c hc => k _ (by omega)), hok.2.2.2.2.2.2.1.c (fun c hc => ⟨k _ (by omega), k _ (by omega), k _ (by omega)⟩), hok.2.2.2.2.2.2.2.c (fun b hb => k _ (by omega))⟩, hrs.c ⟨k _ (by omega), k _ (by omega), k _ (by omega), k _ (by omega), k _ (by omega), k _ (by omega)⟩ (fun p hp => ⟨k _ (by omega), k _ (by omega)⟩) (fun b hb => ⟨k _ (by omega), k _ (by omega), k _ (by omega)⟩), hrp.f hP.2 (fun i hi => k i (by omega)), hrk.f hP.2 ⟨rfl, rfl, rfl⟩ (fun i hi => k i (by omega)), hw.f hP.2 (fun i hi => k i (by omega)), he.f hP.2 (fun i hi => k i (by omega))⟩
theorem M_tries : F_X9_tries om = some (om.1, va_up om.2 4 (z_cpy (om.2 1) (om.2 4) 0 0 144)) := by
  have h : F_X9_copies_1_4 om 0 0 144 = _ := M_cp_1_4 (s := 0) (d := 0) (n := 144) (by omega) (by omega)
  simp only [F_X9_tries, h, z_bsN]
theorem M_back {v : Int32} : F_X9_back om v = some (v, (om.1, va_up om.2 1 (z_cpy (om.2 4) (om.2 1) 0 0 144))) := by
  have h : F_X9_copies_4_1 om 0 0 144 = _ := M_cp_4_1 (s := 0) (d := 0) (n := 144) (by omega) (by omega)
  simp only [F_X9_back, h, z_bsN]
/-- what comes of a try, when it is taken back -/
theorem z_tried {g3 : Nat → Int32} {v : Int32} : ∃ om2 : ob, F_X9_back (upd om.1 0 0, va_up (va_up om.2 4 (z_cpy (om.2 1) (om.2 4) 0 0 144)) 1 g3) v = some (v, om2) ∧ zS om om2 := by
  refine ⟨_, M_back, rfl, fun i hi => ?_, fun r h1 h4 => ?_⟩
  · dsimp only
    rw [z_vs, z_cin0 hi, z_vn (by omega), z_vs, z_cin0 hi]
  · dsimp only
    rw [z_vn h1, z_vn h1, z_vn h4]
theorem TUC_e {p : Nat} {y : Int32} (hp : p < 10) (hy : ofp.2 9 p = y) (hend : ofp.1 1 = nI 10000) (hof : ∃ w : Int32, F_X2_offerOf ofp ofw ofe (nI p) = some w) : ∀ (d k fc : Nat), k + d = 100 → d < fc → F_X8_turnsUntilCrossing_30 oB os op ow oe (nI p) y fc ofp ofw ofe (nI k) = some (0, -1, ofp, ofw, ofe) := by
  intro d
  induction d with
  | zero =>
    intro k fc hk h1
    obtain ⟨fc, rfl⟩ : ∃ n, fc = n + 1 := ⟨fc - 1, by omega⟩
    obtain rfl : k = 100 := by omega
    simp only [F_X8_turnsUntilCrossing_30]
    rw [if_pos (by decide)]
  | succ d ih =>
    intro k fc hk h1
    obtain ⟨fc, rfl⟩ : ∃ n, fc = n + 1 := ⟨fc - 1, by omega⟩
    obtain ⟨w, hw⟩ := hof
    simp only [F_X8_turnsUntilCrossing_30]
    rw [if_neg (show ¬ (100 : Int32) ≤ nI k from nI_ge (a := k) (b := 100) (by omega) (by omega)), hw, z_bsN]
    by_cases c : w = -1
    · rw [if_pos c]
    · rw [if_neg c, ONE_end hend]
      simp only [z_bsN, nI_1]
      rw [z_at (by omega) (by omega), hy, if_pos rfl]
      exact ih (k + 1) fc (by omega) (by omega)
theorem TUC {p : Nat} {y : Int32} : ∀ (d k fc fm t J : Nat) (ofp ofw ofe om : ob) (qw qe : List Nat), k + d = 100 → t ≤ 10000 → d < fc → d < fm → J + 40 * d < 2 ^ 31 → RPos P B J os ofp ofw ofe (om.2 1) qw qe → om.2 1 0 = nI t → p < P → om.2 1 (12 + 8 * p + 5) = y → ∃ (v : Int32) (fp3 fw3 fe3 : ob) (g3 : Nat → Int32), F_X8_turnsUntilCrossing_30 oB os op ow oe (nI p) y fc ofp ofw ofe (nI k) = some (0, v, fp3, fw3, fe3) ∧ F_X9_turnsToCross_9 (nI p) y fm om (nI k) = some (v, (om.1, va_up om.2 1 g3)) := by
  intro d
  induction d with
  | zero =>
    intro k fc fm t J ofp ofw ofe om qw qe hk ht h1 h2 hJ h e0 hp hy
    obtain ⟨fc, rfl⟩ : ∃ n, fc = n + 1 := ⟨fc - 1, by omega⟩
    obtain ⟨fm, rfl⟩ : ∃ n, fm = n + 1 := ⟨fm - 1, by omega⟩
    obtain rfl : k = 100 := by omega
    refine ⟨-1, ofp, ofw, ofe, om.2 1, ?_, ?_⟩
    · simp only [F_X8_turnsUntilCrossing_30]
      rw [if_pos (by decide)]
    · simp only [F_X9_turnsToCross_9, z_vid]
      rw [if_pos (by decide)]
  | succ d ih =>
    intro k fc fm t J ofp ofw ofe om qw qe hk ht h1 h2 hJ h e0 hp hy
    have hP := h.hP
    by_cases c : t = 10000
    · subst c
      obtain ⟨fm, rfl⟩ : ∃ n, fm = n + 1 := ⟨fm - 1, by omega⟩
      refine ⟨-1, ofp, ofw, ofe, om.2 1, TUC_e (by omega) (by rw [h.cr hp, hy]) (by rw [h.now, e0]) ⟨_, C_offerOf h hp⟩ (d + 1) k fc hk h1, ?_⟩
      simp only [F_X9_turnsToCross_9, z_al0, z_bsN, e0, z_vid]
      rw [if_neg (show ¬ (100 : Int32) ≤ nI k from nI_ge (a := k) (b := 100) (by omega) (by omega)), if_pos (by decide)]
    · obtain ⟨fc, rfl⟩ : ∃ n, fc = n + 1 := ⟨fc - 1, by omega⟩
      obtain ⟨fm, rfl⟩ : ∃ n, fm = n + 1 := ⟨fm - 1, by omega⟩
      have k100 : ¬ (100 : Int32) ≤ nI k := nI_ge (a := k) (b := 100) (by omega) (by omega)
      have t100 : ¬ (10000 : Int32) ≤ nI t := nI_ge (a := t) (b := 10000) (by omega) (by omega)
      by_cases hq : 0 < om.2 1 (12 + 8 * p + 6)
      · obtain ⟨v, op3, ow3, oe3, g3, qw3, qe3, s1, s2, s3, s4, s5⟩ := ONE h (by omega) (by omega) e0
        have hoff : ¬ (om.2 1 (12 + 8 * p + 6) - 1 = -1) := fun q => (C_nq h hp).mp q hq
        have hup := s5 p hp
        rw [hy] at hup
        have hmod : F_X9_of (om.1, va_up om.2 1 g3) (nI p) 5 = some (g3 (12 + 8 * p + 5)) := by
          rw [M_of5 (show p < 10 by omega)]; dsimp only; rw [z_vs]
        by_cases c5 : g3 (12 + 8 * p + 5) = y
        · obtain ⟨v4, fp4, fw4, fe4, g4, u1, u2⟩ := ih (k + 1) fc fm (t + 1) (J + 40) op3 ow3 oe3 (om.1, va_up om.2 1 g3) qw3 qe3 (by omega) (by omega) (by omega) (by omega) (by omega) (by dsimp only; rw [z_vs]; exact s3) (by dsimp only; rw [z_vs]; exact s4) hp (by dsimp only; rw [z_vs]; exact c5)
          refine ⟨v4, fp4, fw4, fe4, g4, ?_, ?_⟩
          · simp only [F_X8_turnsUntilCrossing_30]
            rw [if_neg k100, C_offerOf h hp, z_bsN, if_neg hoff, s1]
            simp only [z_bsN, nI_1]
            rw [z_at (by omega) (by omega), s3.cr hp, if_pos c5]
            exact u1
          · simp only [F_X9_turnsToCross_9, z_al0, z_bsN, e0, M_qd (om := om) (show p < 10 by omega), z_10, z_qd, decide_eq_true_eq]
            rw [if_neg k100, if_neg t100, if_pos hq, s2]
            simp only [z_bsN, hmod, nI_1]
            rw [if_pos (by rw [c5]; exact Int32.le_refl _), u2]
            simp only [z_vv]
        · refine ⟨nI k, op3, ow3, oe3, g3, ?_, ?_⟩
          · simp only [F_X8_turnsUntilCrossing_30]
            rw [if_neg k100, C_offerOf h hp, z_bsN, if_neg hoff, s1]
            simp only [z_bsN]
            rw [z_at (by omega) (by omega), s3.cr hp, if_neg c5]
          · simp only [F_X9_turnsToCross_9, z_al0, z_bsN, e0, M_qd (om := om) (show p < 10 by omega), z_10, z_qd, decide_eq_true_eq]
            rw [if_neg k100, if_neg t100, if_pos hq, s2]
            simp only [z_bsN, hmod]
            rw [if_neg (fun q => c5 (Int32.le_antisymm q hup))]
      · refine ⟨-1, ofp, ofw, ofe, om.2 1, ?_, ?_⟩
        · simp only [F_X8_turnsUntilCrossing_30]
          rw [if_neg k100, C_offerOf h hp, z_bsN, if_pos ((C_nq h hp).mpr hq)]
        · simp only [F_X9_turnsToCross_9, z_al0, z_bsN, e0, M_qd (om := om) (show p < 10 by omega), z_10, z_qd, decide_eq_true_eq, z_vid]
          rw [if_neg k100, if_neg t100, if_neg hq]
/-- what a forecast answers -/
def zFc (cls : Option (Int32 × Int32 × ob × ob × ob)) (mdl : Option (Int32 × ob)) (om : ob) (c d : Int32) (ofp ofw ofe : ob) : Prop :=
  (∃ (v : Int32) (a b e om2 : ob), cls = some (0, v, a, b, e) ∧ mdl = some (v, om2) ∧ zS om om2) ∨ (∃ b : Int32, cls = some (c, 0, ofp, ofw, ofe) ∧ mdl = some (b, (upd om.1 0 d, om.2)))
theorem X_tuc (h : RPos P B J os op ow oe (om.2 1) qw qe) (hJ : J + 4000 < 2 ^ 31) (x : Int32) : zFc (F_X8_turnsUntilCrossing oB os op ow oe ofp ofw ofe x) (F_X9_turnsUntilCrossing om x) om 1 1 ofp ofw ofe := by
  have hP := h.hP
  rcases z_dec x P with hx | ⟨p, hp, -, rfl⟩
  · refine Or.inr ⟨0, ?_, ?_⟩
    · simp only [F_X8_turnsUntilCrossing, C_rp0 h hx, z_bsN]
      rfl
    · simp only [F_X9_turnsUntilCrossing, z_leN, M_no0 (om := (upd om.1 0 0, om.2)) z_h0 h.h8 (by omega) hP.2 hx, z_bsN, z_uu]
      rfl
  · obtain ⟨y, y1, y2⟩ := C_copy (op := ofp) (ow := ofw) (oe := ofe) h
    obtain ⟨t, ht, e0, -⟩ := h.1.2.1
    obtain ⟨v, fp3, fw3, fe3, g3, u1, u2⟩ := TUC (oB := oB) (op := op) (ow := ow) (oe := oe) (y := om.2 1 (12 + 8 * p + 5)) 100 0 100000 100000 t J y.1 y.2.1 y.2.2 (upd om.1 0 0, va_up om.2 4 (z_cpy (om.2 1) (om.2 4) 0 0 144)) qw qe (by omega) ht (by omega) (by omega) (by omega) (by dsimp only; rw [z_vn (by omega)]; exact y2) (by dsimp only; rw [z_vn (by omega)]; exact e0) hp (by dsimp only; rw [z_vn (by omega)])
    have u1 : F_X8_turnsUntilCrossing_30 oB os op ow oe (nI p) (om.2 1 (12 + 8 * p + 5)) 100000 y.1 y.2.1 y.2.2 0 = _ := u1
    have u2 : F_X9_turnsToCross_9 (nI p) (om.2 1 (12 + 8 * p + 5)) 100000 (upd om.1 0 0, va_up om.2 4 (z_cpy (om.2 1) (om.2 4) 0 0 144)) 0 = _ := u2
    obtain ⟨om2, b1, b2⟩ := z_tried (om := om) (g3 := g3) (v := v)
    refine Or.inl ⟨v, fp3, fw3, fe3, om2, ?_, ?_, b2⟩
    · simp only [F_X8_turnsUntilCrossing, C_rp h hp, z_bsN, y1, z_leN]
      rw [if_pos trivial, z_at (by omega) (by omega), y2.cr hp, u1]
    · simp only [F_X9_turnsUntilCrossing, z_leN, M_no1 (om := (upd om.1 0 0, om.2)) z_h0 h.h8 hP.2 hp, z_bsN, M_tries, F_X9_turnsToCross, M_of5 (show p < 10 by omega)]
      rw [if_pos trivial, z_vn (show (1 : Nat) ≠ 4 by omega), u2]
      simp only [z_bsN, b1]
theorem z_fore (h : RPos P B J os op ow oe (om.2 1) qw qe) (hJ : J + 4000 < 2 ^ 31) (x : Int32) (hx : 0 ≤ x ∧ x ≤ 100) : ∃ (v : Int32) (a b c : ob) (g3 : Nat → Int32) (qw3 qe3 : List Nat), F_X8_foresee oB os op ow oe ofp ofw ofe x = some (v, a, b, c) ∧ v = 0 ∧ F_X9_passesUpTo (upd om.1 0 0, va_up om.2 4 (z_cpy (om.2 1) (om.2 4) 0 0 144)) x = some (upd om.1 0 0, va_up (va_up om.2 4 (z_cpy (om.2 1) (om.2 4) 0 0 144)) 1 g3) ∧ RPos P B (J + 4000) os a b c g3 qw3 qe3 := by
  obtain ⟨n, hn, rfl⟩ := nI_of2 (n := 100) (x := x) rfl (Int32.not_lt.mpr hx.1) hx.2
  obtain ⟨y, y1, y2⟩ := C_copy (op := ofp) (ow := ofw) (oe := ofe) h
  obtain ⟨t, ht, e0, -⟩ := h.1.2.1
  obtain ⟨v, w, op3, ow3, oe3, g3, qw3, qe3, s1, s2, s3⟩ := SEV_u n 0 n 100000 100000 t J y.1 y.2.1 y.2.2 (upd om.1 0 0, va_up om.2 4 (z_cpy (om.2 1) (om.2 4) 0 0 144)) qw qe 0 (by omega) (by omega) ht (by omega) (by omega) (by omega) (by dsimp only; rw [z_vn (by omega)]; exact y2) (by dsimp only; rw [z_vn (by omega)]; exact e0)
  have s1 : F_X2_passSeveral_4 os (nI n) 100000 y.1 y.2.1 y.2.2 0 0 = _ := s1
  have s2 : F_X9_passesUpTo_2 (nI n) 100000 (upd om.1 0 0, va_up om.2 4 (z_cpy (om.2 1) (om.2 4) 0 0 144)) 0 = _ := s2
  refine ⟨0, op3, ow3, oe3, g3, qw3, qe3, ?_, rfl, ?_, s3.mono (by omega)⟩
  · simp only [F_X8_foresee]
    rw [if_neg (Int32.not_lt.mpr hx.1), if_pos hx.2, y1]
    simp only [z_bsN, F_X2_passSeveral, s1]
  · simp only [F_X9_passesUpTo, s2, z_bsN]
theorem z_fore0 (x : Int32) (hx : ¬ (0 ≤ x ∧ x ≤ 100)) : F_X8_foresee oB os op ow oe ofp ofw ofe x = some (2, ofp, ofw, ofe) := by
  simp only [F_X8_foresee]
  by_cases h1 : x < 0
  · rw [if_pos h1]
  · rw [if_neg h1, if_neg (fun q => hx ⟨Int32.not_lt.mp h1, q⟩)]
theorem X_tba (h : RPos P B J os op ow oe (om.2 1) qw qe) (hJ : J + 4000 < 2 ^ 31) (x : Int32) : zFc (F_X8_tollBoxAfter oB os op ow oe ofp ofw ofe x) (F_X9_tollBoxAfter om x) om 2 1 ofp ofw ofe := by
  by_cases hx : 0 ≤ x ∧ x ≤ 100
  · obtain ⟨v, a, b, c, g3, qw3, qe3, s1, rfl, s2, s3⟩ := z_fore (oB := oB) (ofp := ofp) (ofw := ofw) (ofe := ofe) h hJ x hx
    obtain ⟨om2, b1, b2⟩ := z_tried (om := om) (g3 := g3) (v := g3 5)
    refine Or.inl ⟨g3 5, a, b, c, om2, ?_, ?_, b2⟩
    · simp only [F_X8_tollBoxAfter, s1, z_bsN]
      rw [if_pos trivial, s3.2.2.1.1.2.2.1]
    · simp only [F_X9_tollBoxAfter, z_leN, M_in, z_bsN, if_pos hx, M_f1 (om := (upd om.1 0 0, om.2)) z_h0, M_tries]
      rw [if_pos trivial, s2]
      simp only [z_bsN, z_vs, z_al5, b1]
  · refine Or.inr ⟨0, ?_, ?_⟩
    · simp only [F_X8_tollBoxAfter, z_fore0 x hx, z_bsN]
      rfl
    · simp only [F_X9_tollBoxAfter, z_leN, M_in, z_bsN, if_neg hx, M_f0 (om := (upd om.1 0 0, om.2)) (c := 1) z_h0 (by decide), z_uu]
      rfl
theorem X_laa (h : RPos P B J os op ow oe (om.2 1) qw qe) (hJ : J + 4000 < 2 ^ 31) (x : Int32) : zFc (F_X8_limitAngleAfter oB os op ow oe ofp ofw ofe x) (F_X9_limitAngleAfter om x) om 2 1 ofp ofw ofe := by
  by_cases hx : 0 ≤ x ∧ x ≤ 100
  · obtain ⟨v, a, b, c, g3, qw3, qe3, s1, rfl, s2, s3⟩ := z_fore (oB := oB) (ofp := ofp) (ofw := ofw) (ofe := ofe) h hJ x hx
    obtain ⟨om2, b1, b2⟩ := z_tried (om := om) (g3 := g3) (v := g3 1)
    refine Or.inl ⟨g3 1, a, b, c, om2, ?_, ?_, b2⟩
    · simp only [F_X8_limitAngleAfter, s1, z_bsN]
      rw [if_pos trivial, s3.2.2.1.1.2.1]
    · simp only [F_X9_limitAngleAfter, z_leN, M_in, z_bsN, if_pos hx, M_f1 (om := (upd om.1 0 0, om.2)) z_h0, M_tries]
      rw [if_pos trivial, s2]
      simp only [z_bsN, z_vs, z_al1, b1]
  · refine Or.inr ⟨0, ?_, ?_⟩
    · simp only [F_X8_limitAngleAfter, z_fore0 x hx, z_bsN]
      rfl
    · simp only [F_X9_limitAngleAfter, z_leN, M_in, z_bsN, if_neg hx, M_f0 (om := (upd om.1 0 0, om.2)) (c := 1) z_h0 (by decide), z_uu]
      rfl
end FORE
