/-! A turn, the class alone: what it does to the row g. -/
section TURN
variable {P B J J2 C : Nat} {os op op2 o o2 ow oe oB : ob} {g g2 : Nat → Int32} {q q2 qw qe : List Nat} {e f : Int32}
theorem RT.mono (h : RT P B J e f os op o o2 g q q2) (hJ : J ≤ J2) : RT P B J2 e f os op o o2 g q q2 := ⟨h.1.mono hJ, h.2⟩
theorem z_gLo {w : Option Int32} {i : Nat} (h : i ≠ 1) : z_gL g w i = g i := by
  cases w with
  | none => rfl
  | some v => exact z_un h
theorem z_w0 {x x2 : Int32} {fu : Nat} : F_X2_passTurn_71_w os x (fu + 1) op ow oe x2 0 0 = some (x2, 0, 0, op, ow, oe) := by
  simp only [F_X2_passTurn_71_w]
  rw [if_neg (by decide), if_pos (Int32.le_refl _)]
theorem XI.pay (hP : P ≤ 10) (h : XI P C g) {p : Nat} (hp : p < P) {v f : Int32} (h0 : 0 ≤ v.toInt) (hv : v ≤ g (12 + 8 * p + 2)) : XI P C (z_gB g p v f) := by
  have hv := i_le.mp hv
  have hl := h.1.le hp
  have a1 : (z_gB g p v f) 5 = g 5 + v := by rw [z_gB, z_un (by omega), z_un (by omega), z_us]
  have a2 : (z_gB g p v f) (12 + 8 * p + 2) = g (12 + 8 * p + 2) - v := by rw [z_gB, z_un (by omega), z_un (by omega), z_un (by omega), z_us]
  have h5 := h.1.1.1
  have k : ∀ i : Nat, i ≠ 5 → i ≠ 12 + 8 * p + 2 → i ≠ 12 + 8 * p + 1 → i ≠ 12 + 8 * p + 5 → z_gB g p v f i = g i := fun i h1 h2 h3 h4 => by rw [z_gB, z_un h4, z_un h3, z_un h1, z_un h2]
  refine h.c hP (h.1.mv hP hp (a := 5) (by omega) (d := v.toInt) ?_ ?_ (by omega) (by omega) (fun i h1 h2 h3 => k i h1 h2 (by omega) (by omega))) (fun i hi => k i (by omega) (by omega) (by omega) (by omega))
  · rw [a1, i_add (by omega) (by omega)]
  · rw [a2, i_sub (by omega) (by omega)]
theorem z_tlB (h : gK g) {p : Nat} {x : Int32} : 0 ≤ (z_tl g p x).toInt ∧ (z_tl g p x).toInt ≤ 99 := by
  unfold z_tl
  split
  · exact h.1
  · exact h.2
theorem T_try {t : Nat} (h : RT P B J e f os op o o2 g q q2) (hx : XI P C g) (hJ : J + 1 < 2 ^ 31) (hef : (e = 0 ∧ f = 1) ∨ (e = 1 ∧ f = 0)) (ht : t ≤ 10000) (e0 : g 0 = nI t) (et : e = nI (t % 2)) (hq : 0 < q.length) : ∃ (c : Int32) (op3 o3 : ob) (g3 : Nat → Int32), F_X2_letFirstTry_w op o os = some (c, op3, o3) ∧ RT P B (J + 1) e f os op3 o3 o2 g3 (q.eraseIdx 0) q2 ∧ g3 0 = g 0 ∧ XI P C g3 ∧ zD P g g3 := by
  have hne : e ≠ f := by rcases hef with ⟨rfl, rfl⟩ | ⟨rfl, rfl⟩ <;> decide
  obtain ⟨o3, r1, r2⟩ := h.leave hne hq
  have c1 := C_try h hef ht e0 et hq r1
  have hbk := h.2.2.2.2.1.1.bank hq
  have hp := (h.2.2.2.2.1.1.at hq).1
  have hP := h.1.1.1
  have x1 : XI P C (upd g (12 + 8 * q[0] + 6) 0) := hx.f hP.2 (fun i hi => z_un (by omega))
  by_cases c : z_tl g q[0] (z_rk g q[0]) + g (12 + 8 * q[0] + 6) - (1 : Int32) ≤ g (12 + 8 * q[0] + 2)
  · rw [if_pos c] at c1
    have hof := (h.1.2.2.2.1.2 _ hp).2.2.1
    have htl := z_tlB (p := q[0]) (x := z_rk g q[0]) hx.2.1
    have hq6 := i_lt.mp hbk.2
    have hq7 := i_le.mp hof.2
    have l0 : (0 : Int32).toInt = 0 := rfl
    have l1 : (1 : Int32).toInt = 1 := rfl
    have l100 : (100 : Int32).toInt = 100 := rfl
    have hv0 : 0 ≤ (z_tl g q[0] (z_rk g q[0]) + g (12 + 8 * q[0] + 6) - (1 : Int32)).toInt := by
      have e1 : (z_tl g q[0] (z_rk g q[0]) + g (12 + 8 * q[0] + 6)).toInt = (z_tl g q[0] (z_rk g q[0])).toInt + (g (12 + 8 * q[0] + 6)).toInt := i_add (by omega) (by omega)
      rw [i_sub (by omega) (by omega)]
      omega
    refine ⟨_, _, _, z_gL (z_ct (z_gB (upd g (12 + 8 * q[0] + 6) 0) q[0] (z_tl g q[0] (z_rk g q[0]) + g (12 + 8 * q[0] + 6) - (1 : Int32)) f) q[0] P) (z_ln g q[0] (z_kb g q[0] (z_rk g q[0]) < g 1)), c1, ?_, ?_, ?_, ?_⟩
    · have r3 := (r2.pay hJ hp (by rw [z_us]) (v := z_tl g q[0] (z_rk g q[0]) + g (12 + 8 * q[0] + 6) - (1 : Int32)) (f := f) (by rcases hef with ⟨_, rfl⟩ | ⟨_, rfl⟩ <;> decide)).count hp
      have r3 : RT P B (J + 1) e f os (z_oC (z_oB op q[0] (z_tl g q[0] (z_rk g q[0]) + g (12 + 8 * q[0] + 6) - (1 : Int32)) f) q[0] P) o3 o2 (z_ct (z_gB (upd g (12 + 8 * q[0] + 6) 0) q[0] (z_tl g q[0] (z_rk g q[0]) + g (12 + 8 * q[0] + 6) - (1 : Int32)) f) q[0] P) (q.eraseIdx 0) q2 := r3
      show RT P B (J + 1) e f os (z_oL (z_oC (z_oB op q[0] (z_tl g q[0] (z_rk g q[0]) + g (12 + 8 * q[0] + 6) - (1 : Int32)) f) q[0] P) (z_ln g q[0] (z_kb g q[0] (z_rk g q[0]) < g 1))) o3 o2 (z_gL (z_ct (z_gB (upd g (12 + 8 * q[0] + 6) 0) q[0] (z_tl g q[0] (z_rk g q[0]) + g (12 + 8 * q[0] + 6) - (1 : Int32)) f) q[0] P) (z_ln g q[0] (z_kb g q[0] (z_rk g q[0]) < g 1))) (q.eraseIdx 0) q2
      unfold z_ln
      by_cases T : z_kb g q[0] (z_rk g q[0]) < g 1
      · rw [if_pos T]
        by_cases K : g (12 + 8 * q[0]) = 1
        · rw [if_pos K]; exact r3
        · rw [if_neg K]; exact r3.learn z_clB
      · rw [if_neg T]
        by_cases K : g (12 + 8 * q[0]) = 1
        · rw [if_pos K]; exact r3.learn z_clB
        · rw [if_neg K]; exact r3
    · rw [z_gLo (by omega), z_ctN hP.2 (by omega), z_gB, z_un (by omega), z_un (by omega), z_un (by omega), z_un (by omega), z_un (by omega)]
    · have x2 := x1.pay hP.2 hp (f := f) hv0 (by rw [z_un (by omega)]; exact c)
      exact x2.f hP.2 (fun i hi => by rw [z_gLo (by omega), z_ctN hP.2 (by omega)])
    · have kk : ∀ c : Nat, c < P → z_gL (z_ct (z_gB (upd g (12 + 8 * q[0] + 6) 0) q[0] (z_tl g q[0] (z_rk g q[0]) + g (12 + 8 * q[0] + 6) - (1 : Int32)) f) q[0] P) (z_ln g q[0] (z_kb g q[0] (z_rk g q[0]) < g 1)) (12 + 8 * c + 5) = if c = q[0] then g (12 + 8 * c + 5) + 1 else g (12 + 8 * c + 5) := by
        intro c hc
        rw [z_gLo (by omega), z_ctN hP.2 (by omega), z_gB]
        by_cases r : c = q[0]
        · subst r
          rw [if_pos rfl, z_us, z_un (by omega)]
        · rw [if_neg r, z_un (by omega), z_un (by omega), z_un (by omega), z_un (by omega), z_un (by omega)]
      obtain ⟨_, _, _, h5⟩ := h.1.2.1
      obtain ⟨n, hn, en⟩ := h5 _ hp
      refine ⟨fun c hc => ?_, fun c hc => ?_, fun c hc h1 => ?_, Or.inr ⟨q[0], hp, ?_⟩⟩
      · rw [kk c hc]
        by_cases r : c = q[0]
        · subst r
          rw [if_pos rfl, en, nI_1]
          exact nI_le (by omega) (by omega)
        · rw [if_neg r]; exact Int32.le_refl _
      · rw [z_gLo (by omega), z_ctN hP.2 (by omega), z_gB, z_un (by omega), z_un (by omega), z_un (by omega), z_un (by omega), z_un (by omega)]
      · rw [z_gLo (by omega), z_ctA hc]
        split
        · rfl
        · rw [z_gB, z_un (by omega), z_un (by omega), z_un (by omega), z_un (by omega), z_un (by omega)]
          exact h1
      · rw [kk _ hp, if_pos rfl, en, nI_1]
        exact nI_lt (by omega) (by omega)
  · rw [if_neg c] at c1
    exact ⟨_, _, _, _, c1, r2.mono (by omega), z_un (by omega), x1, zD.f hP.2 (fun i hi => z_un (by omega))⟩
theorem W_loop {t : Nat} {x3 : Int32} (hef : (e = 0 ∧ f = 1) ∨ (e = 1 ∧ f = 0)) (ht : t ≤ 10000) (et : e = nI (t % 2)) : ∀ (q : List Nat) (op o : ob) (g : Nat → Int32) (x2 x4 : Int32) (i J fc : Nat), RT P B J e f os op o o2 g q q2 → XI P C g → g 0 = nI t → q.length + i ≤ 10 → q.length < fc → J + q.length < 2 ^ 31 → ∃ (v x i5 : Int32) (op3 o3 : ob) (g3 : Nat → Int32) (q3 : List Nat), F_X2_passTurn_71_w_2 os x3 fc op o o2 x2 x4 (nI i) = some (v, x, i5, op3, o3, o2) ∧ RT P B (J + q.length) e f os op3 o3 o2 g3 q3 q2 ∧ g3 0 = nI t ∧ XI P C g3 ∧ zD P g g3 := by
  intro q
  induction q with
  | nil =>
    intro op o g x2 x4 i J fc h hx e0 hi h1 hJ
    obtain ⟨fc, rfl⟩ : ∃ n, fc = n + 1 := ⟨fc - 1, by omega⟩
    have hl : o.1 2 = 0 := h.2.2.2.2.1.2.1
    refine ⟨x2, x4, nI i, op, o, g, [], ?_, h.mono (by omega), e0, hx, zD.refl⟩
    simp only [F_X2_passTurn_71_w_2, hl]
    split
    · rfl
    · split
      · rfl
      · rw [if_pos (Int32.le_refl _)]
  | cons p r ih =>
    intro op o g x2 x4 i J fc h hx e0 hi h1 hJ
    rw [List.length_cons] at hi h1 hJ
    obtain ⟨fc, rfl⟩ : ∃ n, fc = n + 1 := ⟨fc - 1, by omega⟩
    have hl : o.1 2 = nI (r.length + 1) := h.2.2.2.2.1.2.1
    have h10 : ¬ (10 : Int32) ≤ nI i := nI_ge (a := i) (b := 10) (by omega) (by omega)
    have hl0 : ¬ nI (r.length + 1) ≤ (0 : Int32) := nI_nle (by omega) (by omega)
    by_cases hx4 : x4 ≤ 0
    · refine ⟨x2, x4, nI i, op, o, g, p :: r, ?_, h.mono (by omega), e0, hx, zD.refl⟩
      simp only [F_X2_passTurn_71_w_2]
      rw [if_neg h10, if_pos hx4]
    · obtain ⟨c, op3, o3, g3, s1, s4, s5, sx, su⟩ := T_try (q := p :: r) h hx (by omega) hef ht e0 et (Nat.zero_lt_succ _)
      have s4 : RT P B (J + 1) e f os op3 o3 o2 g3 r q2 := s4
      obtain ⟨v, x, i5, op4, o4, g4, q4, t1, t3, t4, tx, t5⟩ := ih op3 o3 g3 (x2 + c) (x4 - c) (i + 1) (J + 1) fc s4 sx (by rw [s5, e0]) (by omega) (by omega) (by omega)
      refine ⟨v, x, i5, op4, o4, g4, q4, ?_, ?_, t4, tx, su.trans t5⟩
      · simp only [F_X2_passTurn_71_w_2]
        rw [if_neg h10, if_neg hx4, hl, if_neg hl0, s1]
        simp only [z_bsN, z_leN, nI_1]
        exact t1
      · rw [List.length_cons, show J + (r.length + 1) = J + 1 + r.length by omega]
        exact t3
theorem B_loop {t : Nat} (hef : (e = 0 ∧ f = 1) ∨ (e = 1 ∧ f = 0)) (ht : t ≤ 10000) (et : e = nI (t % 2)) : ∀ (d b fc : Nat) (q : List Nat) (op o : ob) (g : Nat → Int32) (x2 : Int32) (J : Nat), b + d = B → d < fc → RT P B J e f os op o o2 g q q2 → XI P C g → g 0 = nI t → J + 10 * d < 2 ^ 31 → ∃ (v : Int32) (op3 o3 : ob) (g3 : Nat → Int32) (q3 : List Nat), F_X2_passTurn_25_w os fc op o o2 x2 (nI b) = some (v, nI B, op3, o3, o2) ∧ RT P B (J + 10 * d) e f os op3 o3 o2 g3 q3 q2 ∧ g3 0 = nI t ∧ XI P C g3 ∧ zD P g g3 := by
  intro d
  induction d with
  | zero =>
    intro b fc q op o g x2 J hb h1 h hx e0 hJ
    obtain ⟨fc, rfl⟩ : ∃ n, fc = n + 1 := ⟨fc - 1, by omega⟩
    obtain rfl : b = B := by omega
    have hB := h.1.1.2.1
    refine ⟨x2, op, o, g, q, ?_, h.mono (by omega), e0, hx, zD.refl⟩
    simp only [F_X2_passTurn_25_w, h.2.1.1.2.2.2.2, h.1.1.2.2.2]
    rw [if_pos (Int32.le_refl _)]
  | succ d ih =>
    intro b fc q op o g x2 J hb h1 h hx e0 hJ
    obtain ⟨fc, rfl⟩ : ∃ n, fc = n + 1 := ⟨fc - 1, by omega⟩
    have hP := h.1.1.1
    have hB := h.1.1.2.1
    have hbB : b < B := by omega
    obtain ⟨ow, oe, qw, qe, hr⟩ := h.any hef
    obtain ⟨w, t', w1, w9, -, ew, -, co⟩ := C_op hr hbB
    have hnow : op.1 1 = g 0 := hr.now
    have hwid : os.2 13 b = g (132 + 3 * b + 2) := (hr.2.1.2.2.1 b hbB).2.2
    have hql : q.length ≤ 10 := by have := h.2.2.2.2.1.1.lenP; omega
    have hs5 : os.1 5 = nI B := hr.s5
    simp only [F_X2_passTurn_25_w, hs5, hnow, co, Option.bind_some, z_10]
    rw [z_ig hbB (by omega)]
    by_cases c : g 0 - g 0 / g (132 + 3 * b) * g (132 + 3 * b) = g (132 + 3 * b + 1)
    · rw [if_pos c]
      obtain ⟨v, x, i5, op3, o3, g3, q3, t1, t3, t4, tx, t5⟩ := W_loop (x3 := nI b) (P := P) (B := B) (os := os) (o2 := o2) (q2 := q2) (C := C) hef ht et q op o g x2 (g (132 + 3 * b + 2)) 0 J 100000 h hx e0 (by omega) (by omega) (by omega)
      have t1 : F_X2_passTurn_71_w_2 os (nI b) 100000 op o o2 x2 (g (132 + 3 * b + 2)) 0 = some (v, x, i5, op3, o3, o2) := t1
      obtain ⟨v2, op4, o4, g4, q4, u1, u3, u4, ux, u5⟩ := ih (b + 1) fc q3 op3 o3 g3 v (J + 10) (by omega) (by omega) (t3.mono (by omega)) tx t4 (by omega)
      refine ⟨v2, op4, o4, g4, q4, ?_, by rw [show J + 10 * (d + 1) = J + 10 + 10 * d by omega]; exact u3, u4, ux, t5.trans u5⟩
      rw [z_at (by omega) (by omega), hwid]
      simp only [z_leN, t1, z_bsN, nI_1]
      exact u1
    · rw [if_neg c]
      obtain ⟨v2, op4, o4, g4, q4, u1, u3, u4, ux, u5⟩ := ih (b + 1) fc q op o g x2 (J + 10) (by omega) (by omega) (h.mono (by omega)) hx e0 (by omega)
      refine ⟨v2, op4, o4, g4, q4, ?_, by rw [show J + 10 * (d + 1) = J + 10 + 10 * d by omega]; exact u3, u4, ux, u5⟩
      have : F_X2_passTurn_71_w os (nI b) 100000 op o o2 x2 0 0 = some (x2, 0, 0, op, o, o2) := z_w0 (fu := 99999)
      rw [this]
      simp only [z_bsN, nI_1]
      exact u1
end TURN
