/-! The text's calls. -/
def RX (ot om : ob) : Prop := ∃ S : Nat, S ≤ 500 ∧ ot.1 1 = nI S ∧ om.1 9 = nI S ∧ ot.1 7 = om.1 15 ∧ ot.1 8 = om.1 16 ∧ ∀ i : Nat, i < S → ot.2 0 i = om.2 8 i
section TEXT
variable {ot om od ot2 om2 od2 ot3 om3 os op ow oe np nw ne oB : ob} {oH : hst} {E S n s p b P B J : Nat} {g g2 : Nat → Int32}
theorem T_start (hS : S ≤ 500) (hE : E ≤ S) (hb : ∀ i : Nat, i < S → ot.2 0 i = om.2 8 i) : ∃ ot2 om2 : ob, F_X6_open ot (nI E) = some ot2 ∧ F_X9_starts om (nI E) = some om2 ∧ TX E ot2 om2 ∧ ot2.2 = ot.2 ∧ om2.2 = om.2 ∧ om2.1 9 = 0 ∧ ∀ i : Nat, i < 9 ∨ 16 < i → om2.1 i = om.1 i := by
  obtain ⟨a, c, e1, e2, e3, e4, e5⟩ := T_next (ot := (upd (upd (upd (upd ot.1 7 0) 8 (-1)) 2 (nI E)) 5 0, ot.2)) (om := (upd (upd (upd (upd (upd om.1 10 (nI E)) 9 0) 11 0) 15 0) 16 (-1), om.2)) (E := E) (n := 0) (by dsimp only; simp (disch := omega) only [z_us, z_un]) (by dsimp only; simp (disch := omega) only [z_us, z_un]) (by dsimp only; simp (disch := omega) only [z_us, z_un]) ⟨by dsimp only; simp (disch := omega) only [z_us, z_un], by dsimp only; simp (disch := omega) only [z_us, z_un], by omega, fun i hi => hb i (by omega)⟩ (Nat.zero_le _) (by dsimp only; rw [z_us]; rfl) (by dsimp only; rw [z_un (by omega), z_un (by omega), z_us]; rfl)
  refine ⟨a, c, ?_, ?_, e3, e4.2, e5.2, ?_, fun i hi => ?_⟩
  · simp only [F_X6_open, z_leN, e1, z_bsN]
  · simp only [F_X9_starts, z_leN, e2, z_bsN]
  · rw [e5.1 9 (by omega)]
    dsimp only
    simp (disch := omega) only [z_us, z_un]
  · rw [e5.1 i (by omega)]
    dsimp only
    simp (disch := omega) only [z_un]
theorem L_game (h : TX E ot om) : ∃ (ot5 od5 om5 : ob), ((F_X8_readHeader ot od).bind fun y3 => (F_X8_readPeople y3.1 y3.2).bind fun y4 => F_X8_readBridges y4.1 y4.2) = some (ot5, od5) ∧ F_X9_readsText om = some om5 ∧ ((TX E ot5 om5 ∧ ∃ P B : Nat, 3 ≤ P ∧ 1 ≤ B ∧ LD P B od5 (om5.2 1)) ∨ FX ot5 om5) ∧ tf ot ot5 ∧ lf om om5 := by
  obtain ⟨a, o, c, v8, v9, v10, v11, h1, h2, h3, h4, h5, h6⟩ := L_head (od := od) (Or.inl h)
  rcases h2 with h2 | h2
  · obtain ⟨q1, q2, q3, q4, q5, q6, q7, q8⟩ := h6 h2.1
    have hrow : ∀ i : Nat, upd (upd (upd (upd (fun i => if i < 144 then (0 : Int32) else c.2 1 i) 1 v8) 2 v9) 3 v10) 4 v11 i = if i = 4 then v11 else if i = 3 then v10 else if i = 2 then v9 else if i = 1 then v8 else if i < 144 then 0 else c.2 1 i := fun i => rfl
    have hL : LD 0 0 o (upd (upd (upd (upd (fun i => if i < 144 then (0 : Int32) else c.2 1 i) 1 v8) 2 v9) 3 v10) 4 v11) := by
      have hr0 : ∀ i : Nat, i < 144 → (i = 0 ∨ 4 < i) → upd (upd (upd (upd (fun i => if i < 144 then (0 : Int32) else c.2 1 i) 1 v8) 2 v9) 3 v10) 4 v11 i = 0 := by
        intro i h1 h2
        rw [z_un (by omega), z_un (by omega), z_un (by omega), z_un (by omega), if_pos h1]
      have r1 : upd (upd (upd (upd (fun i => if i < 144 then (0 : Int32) else c.2 1 i) 1 v8) 2 v9) 3 v10) 4 v11 1 = v8 := by simp (disch := omega) only [z_us, z_un]
      have r2 : upd (upd (upd (upd (fun i => if i < 144 then (0 : Int32) else c.2 1 i) 1 v8) 2 v9) 3 v10) 4 v11 2 = v9 := by simp (disch := omega) only [z_us, z_un]
      have r3 : upd (upd (upd (upd (fun i => if i < 144 then (0 : Int32) else c.2 1 i) 1 v8) 2 v9) 3 v10) 4 v11 3 = v10 := by simp (disch := omega) only [z_us, z_un]
      have r4 : upd (upd (upd (upd (fun i => if i < 144 then (0 : Int32) else c.2 1 i) 1 v8) 2 v9) 3 v10) 4 v11 4 = v11 := by rw [z_us]
      generalize upd (upd (upd (upd (fun i => if i < 144 then (0 : Int32) else c.2 1 i) 1 v8) 2 v9) 3 v10) 4 v11 = w at hr0 r1 r2 r3 r4
      refine ⟨⟨q3.trans r1.symm, q4.trans r2.symm, q5.trans r3.symm, q6.trans r4.symm, q7, q8, hr0 8 (by omega) (by omega), hr0 9 (by omega) (by omega), by omega, by omega⟩, ⟨⟨by rw [r1]; exact q1, by rw [r2]; exact q2⟩, hr0 _ (by omega) (by omega), hr0 _ (by omega) (by omega), hr0 _ (by omega) (by omega), hr0 _ (by omega) (by omega), hr0 _ (by omega) (by omega), hr0 10 (by omega) (by omega)⟩, fun q hq => by omega, fun q hq => ⟨hr0 _ (by omega) (by omega), hr0 _ (by omega) (by omega), hr0 _ (by omega) (by omega), hr0 _ (by omega) (by omega), hr0 _ (by omega) (by omega)⟩, fun q hq => by omega⟩
    obtain ⟨x1, a1, o1, a2, c2, s1, s2, s3, s4, s5, s6⟩ := L_people (v8 := v8) (v9 := v9) (v10 := v10) (v11 := v11) (v26 := nI 144) 10 0 100000 100000 a (c.1, va_up c.2 1 (upd (upd (upd (upd (fun i => if i < 144 then (0 : Int32) else c.2 1 i) 1 v8) 2 v9) 3 v10) 4 v11)) o (by omega) (by omega) (by omega) h2.row (by dsimp only; rw [z_vs]; exact hL)
    have s1 : F_X8_readPeople_2 100000 a o 0 = some (x1, a1, o1) := s1
    have hpp : F_X8_readPeople a o = some (a2, o1) := by
      simp only [F_X8_readPeople, s1, z_bsN]
      exact s2
    have hbr : ∃ (a4 o2 c4 : ob), F_X8_readBridges a2 o1 = some (a4, o2) ∧ F_X9_readsText_137 v8 v9 v10 v11 (nI 144) 100000 c2 = some c4 ∧ ((TX E a4 c4 ∧ ∃ P B : Nat, 3 ≤ P ∧ 1 ≤ B ∧ LD P B o2 (c4.2 1)) ∨ FX a4 c4) ∧ tf a2 a4 ∧ lf c2 c4 := by
      rcases s4 with ⟨t1, P, p3, p10, L1⟩ | t1
      · obtain ⟨x3, a3, o2, a4, c4, u1, u2, u3, u4, u5, u6⟩ := L_bridges (v8 := v8) (v9 := v9) (v10 := v10) (v11 := v11) (v26 := nI 144) 4 0 100000 100000 a2 c2 o1 (by omega) (by omega) (by omega) t1 L1
        have u1 : F_X8_readBridges_2 100000 a2 o1 0 = some (x3, a3, o2) := u1
        refine ⟨a4, o2, c4, ?_, u3, ?_, u5, u6⟩
        · simp only [F_X8_readBridges, u1, z_bsN]
          exact u2
        · rcases u4 with ⟨t2, B, b1, b4, L2⟩ | t2
          · exact Or.inl ⟨t2, P, B, p3, b1, L2⟩
          · exact Or.inr t2
      · refine ⟨a2, o1, c2, ?_, F_bM (fm := 99999) t1, Or.inr t1, tf.refl, lf.refl⟩
        have u1 : F_X8_readBridges_2 100000 a2 o1 0 = some (0, a2, o1) := F_bC (fc := 99999) t1
        simp only [F_X8_readBridges, u1, z_bsN]
        exact F_ck2 t1
    obtain ⟨a4, o2, c4, w1, w2, w3, w4, w5⟩ := hbr
    refine ⟨a4, o2, c4, ?_, ?_, w3, h3.trans (s5.trans w4), ?_⟩
    · rw [h1, z_bsN, hpp, z_bsN, w1]
    · rw [h5, if_pos h2.2.1, M_54]
      simp only [z_bsN, z_leN, z_vs, z_as1, z_vv, z_as2, z_as3, z_as4, s3, w2]
    · refine lf.trans h4.lf (lf.trans (om2 := (c.1, va_up c.2 1 (upd (upd (upd (upd (fun i => if i < 144 then (0 : Int32) else c.2 1 i) 1 v8) 2 v9) 3 v10) 4 v11))) ⟨fun i hi => rfl, fun r hr => ?_⟩ (s6.trans w5))
      dsimp only
      rw [z_vn hr]
  · have hpp : F_X8_readPeople a o = some (a, o) := by
      have u1 : F_X8_readPeople_2 100000 a o 0 = some (0, a, o) := F_pC (fc := 99999) h2
      simp only [F_X8_readPeople, u1, z_bsN]
      exact F_ck h2
    have hbb : F_X8_readBridges a o = some (a, o) := by
      have u1 : F_X8_readBridges_2 100000 a o 0 = some (0, a, o) := F_bC (fc := 99999) h2
      simp only [F_X8_readBridges, u1, z_bsN]
      exact F_ck2 h2
    refine ⟨a, o, c, ?_, ?_, Or.inr h2, h3, h4.lf⟩
    · rw [h1, z_bsN, hpp, z_bsN, hbb]
    · rw [h5, if_neg h2.w]
theorem M_in2 {x : Int32} (hS : S ≤ 500) : (∃ E : Nat, E ≤ S ∧ x = nI E) ∨ ¬ (0 ≤ x ∧ x ≤ nI S) := by
  by_cases h : 0 ≤ x ∧ x ≤ nI S
  · obtain ⟨E, hE, e⟩ := nI_of2 (n := S) (x := x) (nI_toInt (by omega)) (Int32.not_lt.mpr h.1) h.2
    exact Or.inl ⟨E, hE, e⟩
  · exact Or.inr h
theorem C_reqL {x : Int32} (h : ot.1 1 = nI S) : F_X8_requireLength oB ot x = some (if 0 ≤ x ∧ x ≤ nI S then 0 else 2) := by
  simp only [F_X8_requireLength, h]
  by_cases h1 : x < 0
  · rw [if_pos h1, if_neg (fun q => Int32.not_le.mpr h1 q.1)]
  · rw [if_neg h1]
    by_cases h2 : x ≤ nI S
    · rw [if_pos h2, if_pos ⟨Int32.not_lt.mp h1, h2⟩]
    · rw [if_neg h2, if_neg (fun q => h2 q.2)]
theorem X_load (hX : RX ot om) (hG : RG P B J oB os op ow oe np nw ne oH om) (x : Int32) :
    (∃ b : Int32, F_X8_loadGame oB ot od os op ow oe oH x = some (2, 0, oB, ot, od, os, op, ow, oe, oH) ∧ F_X9_loadGame om x = some (b, (upd om.1 0 1, om.2))) ∨
    ∃ (v : Int32) (oB2 ot2 od2 os2 op2 ow2 oe2 om2 : ob) (oH2 : hst) (P2 B2 : Nat), F_X8_loadGame oB ot od os op ow oe oH x = some (0, v, oB2, ot2, od2, os2, op2, ow2, oe2, oH2) ∧ F_X9_loadGame om x = some (v, om2) ∧ om2.1 0 = 0 ∧ RX ot2 om2 ∧ RG P2 B2 J oB2 os2 op2 ow2 oe2 np nw ne oH2 om2 ∧ om2.1 20 = om.1 20 ∧ om2.2 19 = om.2 19 ∧ oB2.1 9 = oB.1 9 := by
  obtain ⟨S, hS, x1, x9, x7, x8, xb⟩ := hX
  rcases M_in2 (x := x) hS with ⟨E, hE, rfl⟩ | hx
  · have hin : 0 ≤ (nI E : Int32) ∧ nI E ≤ nI S := ⟨nI_pos' (by omega), nI_le hE (by omega)⟩
    have z0 : ((upd om.1 0 0, om.2) : ob).1 0 = 0 := z_h0
    have hcp : F_X9_copies_1_2 (upd om.1 0 0, om.2) 0 0 144 = _ := M_cp_1_2 (om := (upd om.1 0 0, om.2)) (s := 0) (d := 0) (n := 144) (by omega) (by omega)
    obtain ⟨a, c, t1, t2, t3, t4, t5, t6, t7⟩ := T_start (ot := ot) (om := (upd om.1 0 0, va_up om.2 2 (z_cpy (om.2 1) (om.2 2) 0 0 144))) hS hE (fun i hi => by dsimp only; rw [z_vn (by omega)]; exact xb i hi)
    obtain ⟨a5, o5, c5, g1, g2, g3, g4, g5⟩ := L_game (od := od) t3
    have hclass : F_X8_loadGame oB ot od os op ow oe oH (nI E) = (F_X6_hasFailed (upd a5.1 1 0, a5.2)).bind fun y7 => if y7 = (0 : Int32) then ((F_X5_copyFrom os o5).bind fun y9 => (F_X2_begin op ow oe y9).bind fun y10 => (F_X1_clear oH).bind fun y11 => rx_le (upd oB.1 10 ((0 : Int32)), oB.2) fun o_B_12 => some ((0 : Int32), (y9.1 4), o_B_12, (upd a5.1 1 0, a5.2), o5, y9, y10.1, y10.2.1, y10.2.2, y11)) else (some ((0 : Int32), (-1 : Int32), oB, (upd a5.1 1 0, a5.2), o5, os, op, ow, oe, oH)) := by
      have gg : ∀ Y : ob × ob → Option (Int32 × Int32 × ob × ob × ob × ob × ob × ob × ob × hst), ((F_X8_readHeader a od).bind fun y3 => (F_X8_readPeople y3.1 y3.2).bind fun y4 => (F_X8_readBridges y4.1 y4.2).bind Y) = Y (a5, o5) := by
        intro Y
        have : ((F_X8_readHeader a od).bind fun y3 => (F_X8_readPeople y3.1 y3.2).bind fun y4 => (F_X8_readBridges y4.1 y4.2).bind Y) = (((F_X8_readHeader a od).bind fun y3 => (F_X8_readPeople y3.1 y3.2).bind fun y4 => F_X8_readBridges y4.1 y4.2)).bind Y := by
          simp only [Option.bind_assoc]
        rw [this, g1]
        rfl
      simp only [F_X8_loadGame, C_reqL x1, z_bsN, z_leN]
      rw [if_pos hin, if_pos rfl, t1]
      simp only [z_bsN]
      rw [gg]
    have hmodel : F_X9_loadGame om (nI E) = if (c5.1 15) = (0 : Int32) then (rx_le (upd c5.1 6 ((0 : Int32)), c5.2) fun o_m_9 => rx_le (upd o_m_9.1 7 ((0 : Int32)), o_m_9.2) fun o_m_10 => (rx_ald 144 (o_m_10.2 1) ((8 : Int32))).bind fun v11 => some (v11, o_m_10)) else ((F_X9_copies_2_1 c5 ((0 : Int32)) ((0 : Int32)) ((144 : Int32))).bind fun y12 => some ((-1 : Int32), y12)) := by
      have e9 : upd om.1 0 0 9 = nI S := by rw [z_un (by omega)]; exact x9
      simp only [F_X9_loadGame, z_leN, M_in, e9, z_bsN]
      rw [if_pos hin, M_f1 z0]
      simp only [z_bsN, if_true, hcp, t2, g2]
    have c59 : c5.1 9 = 0 := (g5.1 9 (by omega)).trans t6
    have c5i : ∀ i : Nat, i < 9 ∨ 16 < i → c5.1 i = upd om.1 0 0 i := fun i hi => (g5.1 i (by omega)).trans (t7 i hi)
    have c5r : ∀ r : Nat, r ≠ 1 → r ≠ 2 → c5.2 r = om.2 r := fun r h1 h2 => by rw [g5.2 r h1, t5]; dsimp only; rw [z_vn h2]
    have c52 : c5.2 2 = z_cpy (om.2 1) (om.2 2) 0 0 144 := by rw [g5.2 2 (by omega), t5]; dsimp only; rw [z_vs]
    right
    rcases g3 with ⟨h, P2, B2, p3, b1, hL⟩ | h
    · obtain ⟨y, y1, y2⟩ := C_copyS (os := os) hL
      obtain ⟨w, w1, w2⟩ := C_begin (op := op) (ow := ow) (oe := oe) y2 p3 b1
      refine ⟨nI P2, (upd oB.1 10 0, oB.2), (upd a5.1 1 0, a5.2), o5, y, w.1, w.2.1, w.2.2, (upd (upd c5.1 6 0) 7 0, c5.2), ((upd oH.1.1 2 0, oH.1.2), oH.2), P2, B2, ?_, ?_, ?_, ?_, ⟨⟨[], [], ?_⟩, ?_, ?_⟩, ?_, ?_, ?_⟩
      · rw [hclass]
        simp only [F_X6_hasFailed]
        rw [if_pos (show upd a5.1 1 0 7 = 0 from (z_un (by omega)).trans h.1)]
        simp only [z_bsN, if_true, y1, w1, F_X1_clear, z_leN, y2.1.2.2.2.2.1]
      · rw [hmodel, if_pos h.2.1]
        simp only [z_leN, z_al8, z_bsN, hL.1.2.2.2.2.2.2.1]
      · dsimp only; rw [z_un (by omega), z_un (by omega), c5i 0 (by omega), z_us]
      · refine ⟨0, by omega, by dsimp only; rw [z_us]; rfl, by dsimp only; rw [z_un (by omega), z_un (by omega), c59]; rfl, ?_, ?_, fun i hi => by omega⟩
        · dsimp only; rw [z_un (by omega), z_un (by omega), z_un (by omega), h.1, h.2.1]
        · dsimp only; rw [z_un (by omega), z_un (by omega), z_un (by omega)]; exact h.2.2.1
      · exact w2.mono (Nat.zero_le _)
      · obtain ⟨cc, n, h1, h2, h3, h4, h5, h6⟩ := hG.2.1
        exact ⟨0, n, by omega, h2, by dsimp only; rw [z_us]; rfl, by dsimp only; rw [z_un (by omega)]; exact h4, by dsimp only; rw [z_un (by omega), z_us]; rfl, fun i hi => by omega⟩
      · refine ⟨?_, Or.inl ?_⟩
        · dsimp only; rw [z_us, z_us]
        · dsimp only; rw [z_us]
      · dsimp only; rw [z_un (by omega), z_un (by omega), c5i 20 (by omega), z_un (by omega)]
      · exact c5r 19 (by omega) (by omega)
      · dsimp only; rw [z_un (by omega)]
    · have hcb := M_cp_2_1 (om := c5) (s := 0) (d := 0) (n := 144) (by omega) (by omega)
      have hcb : F_X9_copies_2_1 c5 0 0 144 = _ := hcb
      obtain ⟨hE1, hH, hN⟩ := hG
      refine ⟨-1, oB, (upd a5.1 1 0, a5.2), o5, os, op, ow, oe, (c5.1, va_up c5.2 1 (z_cpy (c5.2 2) (c5.2 1) 0 0 144)), oH, P, B, ?_, ?_, ?_, ?_, ⟨?_, ?_, ?_⟩, ?_, ?_, rfl⟩
      · rw [hclass]
        simp only [F_X6_hasFailed]
        rw [if_neg (show ¬ upd a5.1 1 0 7 = 0 from fun q => h.1 ((z_un (by omega)).symm.trans q))]
        simp only [z_bsN]
        rw [if_neg (by decide)]
      · rw [hmodel, if_neg h.w, hcb]
        simp only [z_bsN]
      · dsimp only; rw [c5i 0 (by omega), z_us]
      · refine ⟨0, by omega, by dsimp only; rw [z_us]; rfl, c59, ?_, ?_, fun i hi => by omega⟩
        · dsimp only; rw [z_un (by omega)]; exact h.2.1
        · dsimp only; rw [z_un (by omega)]; exact h.2.2.1
      · refine hE1.cong (fun i hi => ?_)
        dsimp only
        rw [z_vs, z_cin0 hi, c52, z_cin0 hi]
      · dsimp only
        rw [z_vn (by omega), c5r 5 (by omega) (by omega), c5i 6 (by omega), z_un (by omega)]
        exact hH
      · dsimp only
        rw [z_vn (by omega), c5r 3 (by omega) (by omega), c5i 7 (by omega), z_un (by omega)]
        exact hN
      · dsimp only; rw [c5i 20 (by omega), z_un (by omega)]
      · dsimp only; rw [z_vn (by omega), c5r 19 (by omega) (by omega)]
  · refine Or.inl ⟨0, ?_, ?_⟩
    · simp only [F_X8_loadGame, C_reqL x1, z_bsN]
      rw [if_neg hx, if_neg (by decide)]
    · have e9 : upd om.1 0 0 9 = nI S := by rw [z_un (by omega)]; exact x9
      simp only [F_X9_loadGame, z_leN, M_in, e9, z_bsN]
      rw [if_neg hx, M_f0 (om := (upd om.1 0 0, om.2)) (c := 1) z_h0 (by decide)]
      simp only [z_bsN, z_uu]
      rfl
end TEXT
