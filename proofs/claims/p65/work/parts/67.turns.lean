/-! Turns, several turns. -/
section TURNS
variable {P B J J2 C : Nat} {os op op2 o o2 ow oe : ob} {g g2 : Nat → Int32} {q q2 qw qe : List Nat} {e f : Int32}
theorem E_let : F_X2_letFirstTry_e = F_X2_letFirstTry_w := rfl
theorem E_71b {os : ob} {x3 : Int32} : ∀ (fu : Nat) (op ow oe : ob) (x2 x4 x5 : Int32), F_X2_passTurn_71_e_2 os x3 fu op ow oe x2 x4 x5 = (F_X2_passTurn_71_w_2 os x3 fu op oe ow x2 x4 x5).bind fun y => some (y.1, y.2.1, y.2.2.1, y.2.2.2.1, y.2.2.2.2.2, y.2.2.2.2.1) := by
  intro fu
  induction fu with
  | zero => intros; rfl
  | succ fu ih =>
    intro op ow oe x2 x4 x5
    simp only [F_X2_passTurn_71_e_2, F_X2_passTurn_71_w_2, E_let]
    by_cases c1 : 10 ≤ x5
    · rw [if_pos c1, if_pos c1]; rfl
    · rw [if_neg c1, if_neg c1]
      by_cases c2 : x4 ≤ 0
      · rw [if_pos c2, if_pos c2]; rfl
      · rw [if_neg c2, if_neg c2]
        by_cases c3 : oe.1 2 ≤ 0
        · rw [if_pos c3, if_pos c3]; rfl
        · rw [if_neg c3, if_neg c3]
          cases F_X2_letFirstTry_w op oe os with
          | none => rfl
          | some y =>
            simp only [z_bsN, z_leN]
            exact ih _ _ _ _ _ _
theorem z_e0 {x x2 : Int32} {fu : Nat} : F_X2_passTurn_71_e os x (fu + 1) op ow oe x2 0 0 = some (x2, 0, 0, op, ow, oe) := by
  simp only [F_X2_passTurn_71_e]
  rw [if_neg (by decide), if_pos (Int32.le_refl _)]
theorem E_25 {os : ob} : ∀ (fu : Nat) (op ow oe : ob) (x2 x3 : Int32), F_X2_passTurn_25_e os fu op ow oe x2 x3 = (F_X2_passTurn_25_w os fu op oe ow x2 x3).bind fun y => some (y.1, y.2.1, y.2.2.1, y.2.2.2.2, y.2.2.2.1) := by
  intro fu
  induction fu with
  | zero => intros; rfl
  | succ fu ih =>
    intro op ow oe x2 x3
    simp only [F_X2_passTurn_25_e, F_X2_passTurn_25_w]
    by_cases c1 : os.1 5 ≤ x3
    · rw [if_pos c1, if_pos c1]; rfl
    · rw [if_neg c1, if_neg c1]
      cases F_X5_opens os x3 (op.1 1) with
      | none => rfl
      | some y =>
        simp only [z_bsN, z_leN]
        by_cases c2 : y = 0
        · rw [if_pos c2, if_pos c2, show F_X2_passTurn_71_e os x3 100000 op ow oe x2 0 0 = _ from z_e0 (fu := 99999), show F_X2_passTurn_71_w os x3 100000 op oe ow x2 0 0 = _ from z_w0 (fu := 99999)]
          simp only [z_bsN]
          exact ih _ _ _ _ _
        · rw [if_neg c2, if_neg c2, E_71b]
          cases F_X2_passTurn_71_w_2 os x3 100000 op oe ow x2 (rx_at 4 (os.2 13) x3) 0 with
          | none => rfl
          | some z =>
            simp only [z_bsN]
            exact ih _ _ _ _ _
theorem RT.tick (h : RT P B J e f os op o o2 g q q2) {t : Nat} (ht : t ≤ 9999) (e0 : g 0 = nI t) : RT P B J e f os (upd op.1 1 (op.1 1 + 1), op.2) o o2 (upd g 0 (g 0 + 1)) q q2 := by
  obtain ⟨hok, hrs, hrp, hrk, hw, he⟩ := h
  have hP := hok.1.1
  have hB := hok.1.2.1
  have k : ∀ i : Nat, i ≠ 0 → upd g 0 (g 0 + 1) i = g i := fun i hi => z_un hi
  refine ⟨?_, hrs.f hP.2 (fun i hi => k i (by omega)), ?_, hrk.f hP.2 ⟨rfl, rfl, rfl⟩ (fun i hi => k i (by omega)), hw.f hP.2 (fun i hi => k i (by omega)), he.f hP.2 (fun i hi => k i (by omega))⟩
  · refine ⟨hok.1.c (k _ (by omega)) (k _ (by omega)), ?_, hok.2.2.1.c (k _ (by omega)) (k _ (by omega)), hok.2.2.2.1.c (Nat.le_refl _) (k _ (by omega)) (fun c hc => ⟨k _ (by omega), k _ (by omega), k _ (by omega), k _ (by omega)⟩), hok.2.2.2.2.1.c (fun c hc => ⟨k _ (by omega), k _ (by omega)⟩), hok.2.2.2.2.2.1.c (fun c hc => k _ (by omega)), hok.2.2.2.2.2.2.1.c (fun c hc => ⟨k _ (by omega), k _ (by omega), k _ (by omega)⟩), hok.2.2.2.2.2.2.2.c (fun b hb => k _ (by omega))⟩
    obtain ⟨t2, ht2, e2, hc5⟩ := hok.2.1
    refine ⟨t + 1, by omega, by rw [z_us, e0, nI_1], fun c hc => ?_⟩
    rw [k _ (by omega)]
    exact hc5 c hc
  · obtain ⟨⟨a1, a2, a3, a4, a5⟩, b1, b2, b3, b4, b5⟩ := hrp
    refine ⟨⟨?_, ?_, ?_, ?_, ?_⟩, fun c hc => ?_, fun c hc => ?_, fun c hc => ?_, fun c hc => ?_, fun c hc => ?_⟩
    · dsimp only; rw [z_us, z_us, a1]
    · rw [k _ (by omega)]; exact a2
    · rw [k _ (by omega)]; exact a3
    · rw [k _ (by omega)]; exact a4
    · rw [k _ (by omega)]; exact a5
    · rw [k _ (by omega)]; exact b1 c hc
    · rw [k _ (by omega)]; exact b2 c hc
    · rw [k _ (by omega)]; exact b3 c hc
    · rw [k _ (by omega)]; exact b4 c hc
    · rw [k _ (by omega)]; exact b5 c hc
theorem ONE (h : RPos P B J os op ow oe g qw qe) (hx : XI P C g) (hJ : J + 40 < 2 ^ 31) {t : Nat} (ht : t ≤ 9999) (e0 : g 0 = nI t) : ∃ (v : Int32) (op3 ow3 oe3 : ob) (g3 : Nat → Int32) (qw3 qe3 : List Nat), F_X2_passTurn op ow oe os = some (v, op3, ow3, oe3) ∧ RPos P B (J + 40) os op3 ow3 oe3 g3 qw3 qe3 ∧ g3 0 = nI (t + 1) ∧ XI P C g3 ∧ zD P g g3 := by
  have hB := h.hB
  have hP := h.hP
  have d1 := C_dep2 (op := op) (t := t) (by omega) (by rw [h.now, e0])
  have hnow : op.1 1 ≤ 9999 := by rw [h.now, e0]; exact nI_le (b := 9999) (by omega) (by omega)
  obtain ⟨hok, hrs, hrp, hrk, hw, he⟩ := h
  rcases Nat.mod_two_eq_zero_or_one t with r | r
  · have hT : RT P B J 0 1 os op ow oe g qw qe := ⟨hok, hrs, hrp, hrk, hw, he⟩
    obtain ⟨v, op3, o3, g3, q3, t1, t3, t4, tx, t5⟩ := B_loop (e := 0) (f := 1) (t := t) (P := P) (os := os) (o2 := oe) (q2 := qe) (C := C) (Or.inl ⟨rfl, rfl⟩) (by omega) (by rw [r]; rfl) B 0 100000 qw op ow g 0 J (by omega) (by omega) hT hx e0 (by omega)
    have t1 : F_X2_passTurn_25_w os 100000 op ow oe 0 0 = _ := t1
    obtain ⟨n1, n2, n3, n4, n5, n6⟩ := (t3.tick ht t4).mono (show J + 10 * B ≤ J + 40 by omega)
    refine ⟨v, _, o3, oe, _, _, _, ?_, ⟨n1, n2, n3, n4, n5, n6⟩, by rw [z_us, t4, nI_1], tx.f hP.2 (fun i hi => z_un (by omega)), t5.trans (zD.f hP.2 (fun i hi => z_un (by omega)))⟩
    simp only [F_X2_passTurn]
    rw [if_pos hnow, d1, r, z_bsN, if_neg (by decide), t1]
    rfl
  · have hT : RT P B J 1 0 os op oe ow g qe qw := ⟨hok, hrs, hrp, hrk, he, hw⟩
    obtain ⟨v, op3, o3, g3, q3, t1, t3, t4, tx, t5⟩ := B_loop (e := 1) (f := 0) (t := t) (P := P) (os := os) (o2 := ow) (q2 := qw) (C := C) (Or.inr ⟨rfl, rfl⟩) (by omega) (by rw [r]; rfl) B 0 100000 qe op oe g 0 J (by omega) (by omega) hT hx e0 (by omega)
    have t1 : F_X2_passTurn_25_w os 100000 op oe ow 0 0 = _ := t1
    obtain ⟨n1, n2, n3, n4, n5, n6⟩ := (t3.tick ht t4).mono (show J + 10 * B ≤ J + 40 by omega)
    refine ⟨v, _, ow, o3, _, _, _, ?_, ⟨n1, n2, n3, n4, n6, n5⟩, by rw [z_us, t4, nI_1], tx.f hP.2 (fun i hi => z_un (by omega)), t5.trans (zD.f hP.2 (fun i hi => z_un (by omega)))⟩
    simp only [F_X2_passTurn]
    rw [if_pos hnow, d1, r, z_bsN, if_pos (by decide), E_25, t1]
    rfl
theorem SEV_p : ∀ (d k n fc t J : Nat) (op ow oe : ob) (g : Nat → Int32) (qw qe : List Nat) (x2 : Int32), k + d = n → n < 2 ^ 31 → t + d ≤ 10000 → d < fc → J + 40 * d < 2 ^ 31 → RPos P B J os op ow oe g qw qe → XI P C g → g 0 = nI t → ∃ (v : Int32) (op3 ow3 oe3 : ob) (g3 : Nat → Int32) (qw3 qe3 : List Nat), F_X2_passSeveral_4 os (nI n) fc op ow oe x2 (nI k) = some (v, nI n, op3, ow3, oe3) ∧ RPos P B (J + 40 * d) os op3 ow3 oe3 g3 qw3 qe3 ∧ g3 0 = nI (t + d) ∧ XI P C g3 ∧ zD P g g3 := by
  intro d
  induction d with
  | zero =>
    intro k n fc t J op ow oe g qw qe x2 hk hn ht h1 hJ h hx e0
    obtain ⟨fc, rfl⟩ : ∃ n, fc = n + 1 := ⟨fc - 1, by omega⟩
    obtain rfl : k = n := by omega
    refine ⟨x2, op, ow, oe, g, qw, qe, ?_, h.mono (by omega), e0, hx, zD.refl⟩
    simp only [F_X2_passSeveral_4]
    rw [if_pos (Int32.le_refl _)]
  | succ d ih =>
    intro k n fc t J op ow oe g qw qe x2 hk hn ht h1 hJ h hx e0
    obtain ⟨fc, rfl⟩ : ∃ n, fc = n + 1 := ⟨fc - 1, by omega⟩
    obtain ⟨v, op3, ow3, oe3, g3, qw3, qe3, s1, s3, s4, sx, s5⟩ := ONE h hx (by omega) (by omega) e0
    obtain ⟨v4, op4, ow4, oe4, g4, qw4, qe4, u1, u3, u4, ux, u5⟩ := ih (k + 1) n fc (t + 1) (J + 40) op3 ow3 oe3 g3 qw3 qe3 (x2 + v) (by omega) hn (by omega) (by omega) (by omega) s3 sx s4
    refine ⟨v4, op4, ow4, oe4, g4, qw4, qe4, ?_, by rw [show J + 40 * (d + 1) = J + 40 + 40 * d by omega]; exact u3, by rw [u4]; congr 1; omega, ux, s5.trans u5⟩
    simp only [F_X2_passSeveral_4]
    rw [z_ig (by omega) hn, s1]
    simp only [z_bsN, z_leN, nI_1]
    exact u1
end TURNS
