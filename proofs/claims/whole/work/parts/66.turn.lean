/-! A turn. -/
def z_hd (q : List Nat) : Int32 := match q with | [] => -1 | a :: _ => nI a
def z_up (P : Nat) (g g3 : Nat → Int32) : Prop := ∀ c : Nat, c < P → g (12 + 8 * c + 5) ≤ g3 (12 + 8 * c + 5)
section TURN
variable {P B J J2 : Nat} {os op op2 o o2 ow oe oB om : ob} {g g2 : Nat → Int32} {q q2 qw qe : List Nat} {e f : Int32}
theorem RT.mono (h : RT P B J e f os op o o2 g q q2) (hJ : J ≤ J2) : RT P B J2 e f os op o o2 g q q2 := ⟨h.1.mono hJ, h.2⟩
theorem z_gLo {w : Option Int32} {i : Nat} (h : i ≠ 1) : z_gL g w i = g i := by
  cases w with
  | none => rfl
  | some v => exact z_un h
theorem z_w0 {x x2 : Int32} {fu : Nat} : F_X2_passTurn_71_w os x (fu + 1) op ow oe x2 0 0 = some (x2, 0, 0, op, ow, oe) := by
  simp only [F_X2_passTurn_71_w]
  rw [if_neg (by decide), if_pos (Int32.le_refl _)]
theorem X_try {t : Nat} (h : RT P B J e f os op o o2 (om.2 1) q q2) (hJ : J + 1 < 2 ^ 31) (hef : (e = 0 ∧ f = 1) ∨ (e = 1 ∧ f = 0)) (ht : t ≤ 10000) (e0 : om.2 1 0 = nI t) (et : e = nI (t % 2)) (hq : 0 < q.length) : ∃ (c : Int32) (op3 o3 : ob) (g3 : Nat → Int32), F_X2_letFirstTry_w op o os = some (c, op3, o3) ∧ F_X9_crosses om (nI q[0]) = some (c, (om.1, va_up om.2 1 g3)) ∧ (c = 0 ∨ c = 1) ∧ RT P B (J + 1) e f os op3 o3 o2 g3 (q.eraseIdx 0) q2 ∧ g3 0 = om.2 1 0 ∧ z_up P (om.2 1) g3 := by
  have hne : e ≠ f := by rcases hef with ⟨rfl, rfl⟩ | ⟨rfl, rfl⟩ <;> decide
  obtain ⟨o3, r1, r2⟩ := h.leave hne hq
  have c1 := C_try h hef ht e0 et hq r1
  have hbk := h.2.2.2.2.1.1.bank hq
  have hp := (h.2.2.2.2.1.1.at hq).1
  have hP := h.1.1.1
  have c2 := M_try (f := f) h.1 hp hbk.1 (by rcases hef with ⟨rfl, rfl⟩ | ⟨rfl, rfl⟩ <;> rfl)
  by_cases c : z_tl (om.2 1) q[0] (z_rk (om.2 1) q[0]) + om.2 1 (12 + 8 * q[0] + 6) - (1 : Int32) ≤ om.2 1 (12 + 8 * q[0] + 2)
  · rw [if_pos c] at c1 c2
    refine ⟨_, _, _, _, c1, c2, Or.inr rfl, ?_, ?_, fun d hd => ?_⟩
    · have r3 := (r2.pay hJ hp (by rw [z_us]) (v := z_tl (om.2 1) q[0] (z_rk (om.2 1) q[0]) + om.2 1 (12 + 8 * q[0] + 6) - (1 : Int32)) (by rcases hef with ⟨_, rfl⟩ | ⟨_, rfl⟩ <;> decide)).count hp
      unfold z_ln
      by_cases T : z_kb (om.2 1) q[0] (z_rk (om.2 1) q[0]) < om.2 1 1
      · rw [if_pos T]
        by_cases K : om.2 1 (12 + 8 * q[0]) = 1
        · rw [if_pos K]; exact r3
        · rw [if_neg K]; exact r3.learn z_clB
      · rw [if_neg T]
        by_cases K : om.2 1 (12 + 8 * q[0]) = 1
        · rw [if_pos K]; exact r3.learn z_clB
        · rw [if_neg K]; exact r3
    · have : z_ct (z_gB (upd (om.2 1) (12 + 8 * q[0] + 6) 0) q[0] (z_tl (om.2 1) q[0] (z_rk (om.2 1) q[0]) + om.2 1 (12 + 8 * q[0] + 6) - (1 : Int32)) f) q[0] P 0 = om.2 1 0 := by
        rw [z_ctN hP.2 (by omega), z_gB, z_un (by omega), z_un (by omega), z_un (by omega), z_un (by omega), z_un (by omega)]
      rw [z_gLo (by omega)]; exact this
    · rw [z_gLo (by omega), z_ctN hP.2 (by omega), z_gB]
      by_cases r : d = q[0]
      · subst r
        obtain ⟨_, _, _, h5⟩ := h.1.2.1
        obtain ⟨n, hn, en⟩ := h5 _ hd
        rw [z_us, z_un (by omega), en, nI_1]
        exact nI_le (by omega) (by omega)
      · rw [z_un (by omega), z_un (by omega), z_un (by omega), z_un (by omega), z_un (by omega)]
        exact Int32.le_refl _
  · rw [if_neg c] at c1 c2
    exact ⟨_, _, _, _, c1, c2, Or.inl rfl, r2.mono (by omega), z_un (by omega), fun d hd => by rw [z_un (by omega)]; exact Int32.le_refl _⟩
theorem M_hd (h : RT P B J e f os op o o2 (om.2 1) q q2) : F_X9_at om e 0 = some (z_hd q) := by
  have hP := h.1.1.1
  cases q with
  | nil => exact M_atO hP.2 h.1.1.2.2.1 h.2.2.2.2.1.1 (Or.inr (Int32.le_refl _))
  | cons a r => exact M_atQ hP.2 h.1.1.2.2.1 h.2.2.2.2.1.1 (i := 0) (Nat.zero_lt_succ _)
theorem W_loop {t : Nat} {x3 : Int32} (hef : (e = 0 ∧ f = 1) ∨ (e = 1 ∧ f = 0)) (ht : t ≤ 10000) (et : e = nI (t % 2)) : ∀ (q : List Nat) (op o om : ob) (x2 x4 : Int32) (i J fc fm : Nat), RT P B J e f os op o o2 (om.2 1) q q2 → om.2 1 0 = nI t → q.length + i ≤ 10 → q.length < fc → q.length < fm → J + q.length < 2 ^ 31 → ∃ (v x i5 x5 : Int32) (op3 o3 : ob) (g3 : Nat → Int32) (q3 : List Nat), F_X2_passTurn_71_w_2 os x3 fc op o o2 x2 x4 (nI i) = some (v, x, i5, op3, o3, o2) ∧ F_X9_passOne_51 e x3 fm om x2 x4 (z_hd q) = some (v, x, x5, (om.1, va_up om.2 1 g3)) ∧ RT P B (J + q.length) e f os op3 o3 o2 g3 q3 q2 ∧ g3 0 = nI t ∧ z_up P (om.2 1) g3 := by
  intro q
  induction q with
  | nil =>
    intro op o om x2 x4 i J fc fm h e0 hi h1 h2 hJ
    obtain ⟨fc, rfl⟩ : ∃ n, fc = n + 1 := ⟨fc - 1, by omega⟩
    obtain ⟨fm, rfl⟩ : ∃ n, fm = n + 1 := ⟨fm - 1, by omega⟩
    have hl : o.1 2 = 0 := h.2.2.2.2.1.2.1
    refine ⟨x2, x4, nI i, -1, op, o, om.2 1, [], ?_, ?_, h.mono (by omega), e0, fun _ _ => Int32.le_refl _⟩
    · simp only [F_X2_passTurn_71_w_2, hl]
      split
      · rfl
      · split
        · rfl
        · rw [if_pos (Int32.le_refl _)]
    · simp only [F_X9_passOne_51, z_hd, z_vid]
      split <;> rfl
  | cons p r ih =>
    intro op o om x2 x4 i J fc fm h e0 hi h1 h2 hJ
    rw [List.length_cons] at hi h1 h2 hJ
    obtain ⟨fc, rfl⟩ : ∃ n, fc = n + 1 := ⟨fc - 1, by omega⟩
    obtain ⟨fm, rfl⟩ : ∃ n, fm = n + 1 := ⟨fm - 1, by omega⟩
    have hP := h.1.1.1
    have hp := (h.2.2.2.2.1.1.at (i := 0) (Nat.zero_lt_succ _)).1
    have hp : p < P := hp
    have hl : o.1 2 = nI (r.length + 1) := h.2.2.2.2.1.2.1
    have h10 : ¬ (10 : Int32) ≤ nI i := nI_ge (a := i) (b := 10) (by omega) (by omega)
    have hl0 : ¬ nI (r.length + 1) ≤ (0 : Int32) := nI_nle (by omega) (by omega)
    by_cases hx : x4 ≤ 0
    · refine ⟨x2, x4, nI i, nI p, op, o, om.2 1, p :: r, ?_, ?_, h.mono (by omega), e0, fun _ _ => Int32.le_refl _⟩
      · simp only [F_X2_passTurn_71_w_2]
        rw [if_neg h10, if_pos hx]
      · simp only [F_X9_passOne_51, z_hd, z_vid]
        rw [if_pos hx]
    · obtain ⟨c, op3, o3, g3, s1, s2, s3, s4, s5, su⟩ := X_try (q := p :: r) h (by omega) hef ht e0 et (Nat.zero_lt_succ _)
      have s2 : F_X9_crosses om (nI p) = some (c, (om.1, va_up om.2 1 g3)) := s2
      have s4 : RT P B (J + 1) e f os op3 o3 o2 g3 r q2 := s4
      have s6 : RT P B (J + 1) e f os op3 o3 o2 (((om.1, va_up om.2 1 g3) : ob).2 1) r q2 := by
        dsimp only; rw [z_vs]; exact s4
      have hc : F_X9_truth c = some c := by rcases s3 with rfl | rfl <;> rfl
      obtain ⟨v, x, i5, x5, op4, o4, g4, q4, t1, t2, t3, t4, t5⟩ := ih op3 o3 (om.1, va_up om.2 1 g3) (x2 + c) (x4 - c) (i + 1) (J + 1) fc fm s6 (by dsimp only; rw [z_vs, s5, e0]) (by omega) (by omega) (by omega) (by omega)
      have hh := M_hd s6
      refine ⟨v, x, i5, x5, op4, o4, g4, q4, ?_, ?_, ?_, t4, fun d hd => ?_⟩
      rotate_right
      · refine Int32.le_trans (su d hd) ?_
        have := t5 d hd
        dsimp only at this
        rw [z_vs] at this
        exact this
      · simp only [F_X2_passTurn_71_w_2]
        rw [if_neg h10, if_neg hx, hl, if_neg hl0, s1]
        simp only [z_bsN, z_leN, nI_1]
        exact t1
      · show F_X9_passOne_51 e x3 (fm + 1) om x2 x4 (nI p) = _
        simp only [F_X9_passOne_51]
        rw [if_neg hx, if_neg (z_m1 (show p < 2 ^ 31 by omega)), s2]
        simp only [z_bsN, z_leN, hc, hh]
        rw [t2]
        simp only [z_vv]
      · rw [List.length_cons, show J + (r.length + 1) = J + 1 + r.length by omega]
        exact t3
theorem B_loop {t : Nat} (hef : (e = 0 ∧ f = 1) ∨ (e = 1 ∧ f = 0)) (ht : t ≤ 10000) (et : e = nI (t % 2)) : ∀ (d b fc fm : Nat) (q : List Nat) (op o om : ob) (x2 : Int32) (J : Nat), b + d = B → d < fc → d < fm → RT P B J e f os op o o2 (om.2 1) q q2 → om.2 1 0 = nI t → J + 10 * d < 2 ^ 31 → ∃ (v : Int32) (op3 o3 : ob) (g3 : Nat → Int32) (q3 : List Nat), F_X2_passTurn_25_w os fc op o o2 x2 (nI b) = some (v, nI B, op3, o3, o2) ∧ F_X9_passOne_13 e fm om x2 (nI b) = some (v, nI B, (om.1, va_up om.2 1 g3)) ∧ RT P B (J + 10 * d) e f os op3 o3 o2 g3 q3 q2 ∧ g3 0 = nI t ∧ z_up P (om.2 1) g3 := by
  intro d
  induction d with
  | zero =>
    intro b fc fm q op o om x2 J hb h1 h2 h e0 hJ
    obtain ⟨fc, rfl⟩ : ∃ n, fc = n + 1 := ⟨fc - 1, by omega⟩
    obtain ⟨fm, rfl⟩ : ∃ n, fm = n + 1 := ⟨fm - 1, by omega⟩
    obtain rfl : b = B := by omega
    have hB := h.1.1.2.1
    refine ⟨x2, op, o, om.2 1, q, ?_, ?_, h.mono (by omega), e0, fun _ _ => Int32.le_refl _⟩
    · simp only [F_X2_passTurn_25_w, h.2.1.1.2.2.2.2, h.1.1.2.2.2]
      rw [if_pos (Int32.le_refl _)]
    · simp only [F_X9_passOne_13, z_al9, Option.bind_some, h.1.1.2.2.2, z_vid]
      rw [if_pos (Int32.le_refl _)]
  | succ d ih =>
    intro b fc fm q op o om x2 J hb h1 h2 h e0 hJ
    obtain ⟨fc, rfl⟩ : ∃ n, fc = n + 1 := ⟨fc - 1, by omega⟩
    obtain ⟨fm, rfl⟩ : ∃ n, fm = n + 1 := ⟨fm - 1, by omega⟩
    have hP := h.1.1.1
    have hB := h.1.1.2.1
    have hbB : b < B := by omega
    obtain ⟨ow, oe, qw, qe, hr⟩ := h.any hef
    obtain ⟨w, t', w1, w9, -, ew, -, co⟩ := C_op hr hbB
    have mo := M_op (om := om) hB.2 hbB w1 w9 ew
    have hnow : op.1 1 = om.2 1 0 := hr.now
    have hwid : os.2 13 b = om.2 1 (132 + 3 * b + 2) := (hr.2.1.2.2.1 b hbB).2.2
    have hql : q.length ≤ 10 := by have := h.2.2.2.2.1.1.lenP; omega
    have hs5 : os.1 5 = nI B := hr.s5
    have h9 : om.2 1 9 = nI B := hr.h9
    simp only [F_X2_passTurn_25_w, F_X9_passOne_13, hs5, z_al9, Option.bind_some, h9, hnow, co, mo, z_10]
    rw [z_ig hbB (by omega), z_ig hbB (by omega)]
    by_cases c : om.2 1 0 - om.2 1 0 / om.2 1 (132 + 3 * b) * om.2 1 (132 + 3 * b) = om.2 1 (132 + 3 * b + 1)
    · rw [if_pos c, if_pos c]
      obtain ⟨v, x, i5, x5, op3, o3, g3, q3, t1, t2, t3, t4, t5⟩ := W_loop (x3 := nI b) (P := P) (B := B) (os := os) (o2 := o2) (q2 := q2) hef ht et q op o om x2 (om.2 1 (132 + 3 * b + 2)) 0 J 100000 100000 h e0 (by omega) (by omega) (by omega) (by omega)
      have t1 : F_X2_passTurn_71_w_2 os (nI b) 100000 op o o2 x2 (om.2 1 (132 + 3 * b + 2)) 0 = some (v, x, i5, op3, o3, o2) := t1
      obtain ⟨v2, op4, o4, g4, q4, u1, u2, u3, u4, u5⟩ := ih (b + 1) fc fm q3 op3 o3 (om.1, va_up om.2 1 g3) v (J + 10) (by omega) (by omega) (by omega) (by dsimp only; rw [z_vs]; exact t3.mono (by omega)) (by dsimp only; rw [z_vs]; exact t4) (by omega)
      refine ⟨v2, op4, o4, g4, q4, ?_, ?_, by rw [show J + 10 * (d + 1) = J + 10 + 10 * d by omega]; exact u3, u4, fun c hc => ?_⟩
      rotate_right
      · refine Int32.le_trans (t5 c hc) ?_
        have := u5 c hc
        dsimp only at this
        rw [z_vs] at this
        exact this
      · rw [z_at (by omega) (by omega), hwid]
        simp only [z_leN, t1, z_bsN, nI_1]
        exact u1
      · simp only [M_ofB2 (show b < 4 by omega), M_hd h, z_bsN, t2, nI_1]
        rw [u2]
        simp only [z_vv]
    · rw [if_neg c, if_neg c]
      obtain ⟨v2, op4, o4, g4, q4, u1, u2, u3, u4, u5⟩ := ih (b + 1) fc fm q op o om x2 (J + 10) (by omega) (by omega) (by omega) (h.mono (by omega)) e0 (by omega)
      refine ⟨v2, op4, o4, g4, q4, ?_, ?_, by rw [show J + 10 * (d + 1) = J + 10 + 10 * d by omega]; exact u3, u4, u5⟩
      · have : F_X2_passTurn_71_w os (nI b) 100000 op o o2 x2 0 0 = some (x2, 0, 0, op, o, o2) := z_w0 (fu := 99999)
        rw [this]
        simp only [z_bsN, nI_1]
        exact u1
      · simp only [z_bsN, nI_1]
        exact u2
end TURN
