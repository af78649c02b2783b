/-! A script is read and played. -/
section SCR
variable {P B J S : Nat} {os op ow oe om ot ot2 om2 np nw ne oB : ob} {oc : obv} {oH : hst} {qw qe : List Nat} {E n : Nat} {x1 : Int32}
theorem C_hf0 (h : TX E ot om) : F_X6_hasFailed ot = some 0 := by
  simp only [F_X6_hasFailed]
  rw [if_pos h.1]
theorem C_hf1 (h : FX ot om) : F_X6_hasFailed ot = some 1 := by
  simp only [F_X6_hasFailed]
  rw [if_neg h.1]
theorem F_rC {fc : Nat} {x : Int32} (h : FX ot om) : F_X4_read_7 (fc + 1) oc ot x = some (x, oc, ot) := by
  simp only [F_X4_read_7, C_hf1 h, z_bsN]
  split
  · rfl
  · rw [if_neg (by decide)]
theorem F_rM {fm : Nat} (h : FX ot om) : F_X9_runScript_34 x1 (fm + 1) om = some om := by
  simp only [F_X9_runScript_34]
  rw [if_neg h.w]
theorem L_read : ∀ (d n fc fm : Nat) (oc : obv) (ot om : ob), n + d = 20 → d + 1 < fc → d + 2 < fm → TX E ot om → RO n oc om → ∃ (x : Int32) (oc2 : obv) (ot2 om2 : ob), F_X4_read_7 fc oc ot (nI n) = some (x, oc2, ot2) ∧ F_X9_runScript_34 x1 fm om = some om2 ∧ ((TX E ot2 om2 ∧ ∃ m : Nat, m ≤ 20 ∧ RO m oc2 om2) ∨ FX ot2 om2) ∧ tf ot ot2 ∧ sf om om2 := by
  intro d
  induction d with
  | zero =>
    intro n fc fm oc ot om hn h1 h2 h hR
    obtain ⟨fc, rfl⟩ : ∃ q, fc = q + 2 := ⟨fc - 2, by omega⟩
    obtain ⟨fm, rfl⟩ : ∃ q, fm = q + 2 := ⟨fm - 2, by omega⟩
    obtain rfl : n = 20 := by omega
    by_cases q : om.1 13 = 0
    · refine ⟨nI 20, oc, ot, om, ?_, ?_, Or.inl ⟨h, 20, by omega, hR⟩, tf.refl, sf.refl⟩
      · rw [F_X4_read_7]
        simp only [C_hf0 h, h.atEnd, z_bsN]
        rw [if_neg (by decide), if_pos trivial, if_pos q, if_neg (by decide)]
      · rw [F_X9_runScript_34, if_pos h.2.1, if_pos q]
    · obtain ⟨oc2, ot2, om2, e1, e2, e3, e4, e5⟩ := L_order h hR (by omega)
      rcases e3 with ⟨_, w, _⟩ | e3
      · omega
      refine ⟨nI 20 + 1, oc2, ot2, om2, ?_, ?_, Or.inr e3, e4, e5⟩
      · rw [F_X4_read_7]
        simp only [C_hf0 h, h.atEnd, z_bsN]
        rw [if_neg (by decide), if_pos trivial, if_neg q, if_pos rfl, e1]
        simp only [z_bsN]
        exact F_rC e3
      · rw [F_X9_runScript_34, if_pos h.2.1, if_neg q, e2]
        simp only [z_bsN]
        exact F_rM e3
  | succ d ih =>
    intro n fc fm oc ot om hn h1 h2 h hR
    obtain ⟨fc, rfl⟩ : ∃ q, fc = q + 2 := ⟨fc - 2, by omega⟩
    obtain ⟨fm, rfl⟩ : ∃ q, fm = q + 2 := ⟨fm - 2, by omega⟩
    have h20 : ¬ (20 : Int32) < nI n := Int32.not_lt.mpr (nI_le (a := n) (b := 20) (by omega) (by omega))
    by_cases q : om.1 13 = 0
    · refine ⟨nI n, oc, ot, om, ?_, ?_, Or.inl ⟨h, n, by omega, hR⟩, tf.refl, sf.refl⟩
      · rw [F_X4_read_7]
        simp only [C_hf0 h, h.atEnd, z_bsN]
        rw [if_neg h20, if_pos trivial, if_pos q, if_neg (by decide)]
      · rw [F_X9_runScript_34, if_pos h.2.1, if_pos q]
    · obtain ⟨oc2, ot2, om2, e1, e2, e3, e4, e5⟩ := L_order h hR (by omega)
      have hc : F_X4_read_7 (fc + 1 + 1) oc ot (nI n) = F_X4_read_7 (fc + 1) oc2 ot2 (nI (n + 1)) := by
        rw [F_X4_read_7]
        simp only [C_hf0 h, h.atEnd, z_bsN]
        rw [if_neg h20, if_pos trivial, if_neg q, if_pos rfl, e1, nI_1]
        simp only [z_bsN]
      have hm : F_X9_runScript_34 x1 (fm + 1 + 1) om = F_X9_runScript_34 x1 (fm + 1) om2 := by
        rw [F_X9_runScript_34, if_pos h.2.1, if_neg q, e2]
        simp only [z_bsN]
      rw [hc, hm]
      rcases e3 with ⟨t1, _, R1⟩ | t1
      · obtain ⟨x, oc3, ot3, om3, s1, s2, s3, s4, s5⟩ := ih (n + 1) (fc + 1) (fm + 1) oc2 ot2 om2 (by omega) (by omega) (by omega) t1 R1
        exact ⟨x, oc3, ot3, om3, s1, s2, s3, e4.trans s4, e5.trans s5⟩
      · exact ⟨_, oc2, ot2, om2, F_rC t1, F_rM t1, Or.inr t1, e4, e5⟩
theorem L_play {m : Nat} (hm : m ≤ 20) : ∀ (d i fc fm J : Nat) (op ow oe om : ob) (qw qe : List Nat), i + d = m → d < fc → d < fm → RO m oc om → RPos P B J os op ow oe (om.2 1) qw qe → J + 2000 * d < 2 ^ 31 → ∃ (x : Int32) (op2 ow2 oe2 : ob) (g2 : Nat → Int32) (qw2 qe2 : List Nat), F_X4_play_2 oc os fc op ow oe (nI i) = some (x, op2, ow2, oe2) ∧ F_X9_runScript_70 x1 fm om (nI i) = some (x, (om.1, va_up om.2 1 g2)) ∧ RPos P B (J + 2000 * d) os op2 ow2 oe2 g2 qw2 qe2 := by
  intro d
  induction d with
  | zero =>
    intro i fc fm J op ow oe om qw qe hi h1 h2 hR h hJ
    obtain ⟨fc, rfl⟩ : ∃ q, fc = q + 1 := ⟨fc - 1, by omega⟩
    obtain ⟨fm, rfl⟩ : ∃ q, fm = q + 1 := ⟨fm - 1, by omega⟩
    obtain rfl : i = m := by omega
    obtain ⟨r1, r2, r3⟩ := hR
    refine ⟨nI i, op, ow, oe, om.2 1, qw, qe, ?_, ?_, h.mono (by omega)⟩
    · rw [F_X4_play_2, r1, if_pos (Int32.le_refl _)]
    · rw [F_X9_runScript_70, r2, if_pos (Int32.le_refl _), z_vid]
  | succ d ih =>
    intro i fc fm J op ow oe om qw qe hi h1 h2 hR h hJ
    obtain ⟨fc, rfl⟩ : ∃ q, fc = q + 1 := ⟨fc - 1, by omega⟩
    obtain ⟨fm, rfl⟩ : ∃ q, fm = q + 1 := ⟨fm - 1, by omega⟩
    have hJ2 : J + 2000 < 2 ^ 31 := Nat.lt_of_le_of_lt (Nat.add_le_add_left (Nat.le_mul_of_pos_right 2000 (Nat.succ_pos d)) J) hJ
    have hR0 := hR
    obtain ⟨r1, r2, r3⟩ := hR
    obtain ⟨z, z1, z2, z3, z4, z5, z6⟩ := r3 i (by omega)
    have hld : rx_vld oc.2 (nI i) = some (some z) := by
      unfold rx_vld
      rw [nI_clamp (by omega), if_pos ⟨nI_pos' (by omega), by omega⟩, z2]
    have ix0 : (3 : Int32) * nI i = nI (3 * i) := by rw [show (3 : Int32) = nI 3 from rfl, z_mul]
    have ix1 : nI (3 * i) + (1 : Int32) = nI (3 * i + 1) := nI_1 _
    have ix2 : nI (3 * i) + (2 : Int32) = nI (3 * i + 2) := nI_add _ 2
    have hdn : F_X9_isDoneNow om (nI (3 * i)) = ((F_X9_areThere om (nI z) (om.2 17 (3 * i + 1)) (om.2 17 (3 * i + 2))).bind fun y4 => if y4 = (0 : Int32) then (some ((0 : Int32), om)) else ((F_X9_can om (nI z) (om.2 17 (3 * i + 1)) (om.2 17 (3 * i + 2))).bind fun y6 => if y6 = (0 : Int32) then (some ((0 : Int32), om)) else ((F_X9_does om (nI z) (om.2 17 (3 * i + 1)) (om.2 17 (3 * i + 2))).bind fun y8 => some ((1 : Int32), y8.2)))) := by
      simp only [F_X9_isDoneNow, ix1, ix2]
      rw [z_ald (by omega) (by omega), z_bsN, z_ald (by omega) (by omega), z_bsN, z_ald (by omega) (by omega), z_bsN, z3]
    have hcl : ∀ c : Int32, F_X2_faultOf op ow oe os z (om.2 17 (3 * i + 1)) (om.2 17 (3 * i + 2)) = some c → F_X4_play_2 oc os (fc + 1) op ow oe (nI i) = if c = (0 : Int32) then ((F_X2_carryOut op ow oe os z (om.2 17 (3 * i + 1)) (om.2 17 (3 * i + 2))).bind fun y9 => F_X4_play_2 oc os fc y9.1 y9.2.1 y9.2.2 (nI (i + 1))) else (some (nI i, op, ow, oe)) := by
      intro c hc
      rw [F_X4_play_2, r1, z_ig (by omega) (by omega), z_ig (by omega) (by omega), hld, z_bsN]
      simp only [nI_1]
      rw [z_at (by omega) (by omega), z_at (by omega) (by omega), z4, z5, hc, z_bsN]
    rcases PL_all h hJ2 z1 z6 with ⟨c, c0, p1, p2⟩ | ⟨p1, op2, ow2, oe2, g2, qw2, qe2, p2, p3, p4⟩
    · refine ⟨nI i, op, ow, oe, om.2 1, qw, qe, ?_, ?_, h.mono (by omega)⟩
      · rw [hcl c p1, if_neg c0]
      · rw [F_X9_runScript_70, r2, z_ig (by omega) (by omega), ix0, hdn, p2]
        simp only [z_bsN, if_true, z_vid]
    · have hR2 : RO m oc (om.1, va_up om.2 1 g2) := by
        refine ⟨r1, r2, fun k hk => ?_⟩
        dsimp only
        rw [z_vn (show (17 : Nat) ≠ 1 by omega)]
        exact r3 k hk
      obtain ⟨x, op3, ow3, oe3, g3, qw3, qe3, s1, s2, s3⟩ := ih (i + 1) fc fm (J + 2000) op2 ow2 oe2 (om.1, va_up om.2 1 g2) qw2 qe2 (by omega) (by omega) (by omega) hR2 (by dsimp only; rw [z_vs]; exact p4) (by omega)
      refine ⟨x, op3, ow3, oe3, g3, qw3, qe3, ?_, ?_, by rw [show J + 2000 * (d + 1) = J + 2000 + 2000 * d by omega]; exact s3⟩
      · rw [hcl 0 p1, if_pos rfl, p2, z_bsN, s1]
      · rw [F_X9_runScript_70, r2, z_ig (by omega) (by omega), ix0, hdn, p3]
        simp only [z_bsN]
        rw [if_neg (by decide), nI_1, s2]
        simp only [z_vv]
theorem X_script (hX : RX ot om) (hG : RG P B J oB os op ow oe np nw ne oH om) (hJ : J + 40000 < 2 ^ 31) (x : Int32) :
    (∃ b : Int32, F_X8_runScript oB ot os op ow oe oH oc x = some (2, 0, ot, op, ow, oe, oH, oc) ∧ F_X9_runScript om x = some (b, (upd om.1 0 1, om.2))) ∨
    ∃ (v : Int32) (ot2 op2 ow2 oe2 om2 : ob) (oH2 : hst) (oc2 : obv), F_X8_runScript oB ot os op ow oe oH oc x = some (0, v, ot2, op2, ow2, oe2, oH2, oc2) ∧ F_X9_runScript om x = some (v, om2) ∧ om2.1 0 = 0 ∧ RX ot2 om2 ∧ RG P B (J + 40000) oB os op2 ow2 oe2 np nw ne oH2 om2 ∧ om2.1 20 = om.1 20 ∧ om2.2 19 = om.2 19 := by
  obtain ⟨S, hS, e1, e9, e7, e8, eb⟩ := hX
  rcases M_in2 (x := x) hS with ⟨E, hE, rfl⟩ | hx
  · have hin : 0 ≤ (nI E : Int32) ∧ nI E ≤ nI S := ⟨nI_pos' (by omega), nI_le hE (by omega)⟩
    have z0 : ((upd om.1 0 0, om.2) : ob).1 0 = 0 := z_h0
    obtain ⟨a, c, t1, t2, t3, t4, t5, t6, t7⟩ := T_start (ot := ot) (om := (upd om.1 0 0, om.2)) hS hE eb
    have t3' : TX E a (upd c.1 18 0, c.2) := by
      rcases T2.i18 (v := 0) (Or.inl t3) with r | r
      · exact r
      · exact absurd t3.1 r.1
    have hR : RO 0 ((upd oc.1.1 3 0, oc.1.2), oc.2) (upd c.1 18 0, c.2) := ⟨by dsimp only; rw [z_us]; rfl, by dsimp only; rw [z_us]; rfl, fun i hi => by omega⟩
    obtain ⟨y, oc2, ot2, om2, s1, s2, s3, s4, s5⟩ := L_read (x1 := nI E) 20 0 100000 100000 _ _ _ (by omega) (by omega) (by omega) t3' hR
    have s1 : F_X4_read_7 100000 ((upd oc.1.1 3 0, oc.1.2), oc.2) a 0 = _ := s1
    have o9 : om2.1 9 = 0 := by rw [s5.1 9 (by omega)]; dsimp only; rw [z_un (by omega)]; exact t6
    have oi : ∀ i : Nat, i < 9 ∨ 18 < i → om2.1 i = upd om.1 0 0 i := fun i hi => by
      rw [s5.1 i (by omega)]; dsimp only; rw [z_un (by omega)]; exact t7 i (by omega)
    have orr : ∀ r : Nat, r ≠ 17 → om2.2 r = om.2 r := fun r hr => by rw [s5.2 r hr]; dsimp only; rw [t5]
    have hclass : F_X8_runScript oB ot os op ow oe oH oc (nI E) = (F_X6_hasFailed (upd ot2.1 1 0, ot2.2)).bind fun y5 => if y5 = (0 : Int32) then ((F_X1_push oH op ow oe).bind fun y7 => (F_X4_play oc2 op ow oe os).bind fun y8 => some ((0 : Int32), y8.1, (upd ot2.1 1 0, ot2.2), y8.2.1, y8.2.2.1, y8.2.2.2, y7, oc2)) else (some ((0 : Int32), (-1 : Int32), (upd ot2.1 1 0, ot2.2), op, ow, oe, oH, oc2)) := by
      simp only [F_X8_runScript, C_reqL e1, z_bsN, z_leN]
      rw [if_pos hin, if_pos rfl, t1]
      simp only [z_bsN, F_X4_read, z_leN, s1]
    have hmodel : F_X9_runScript om (nI E) = if (om2.1 15) = (0 : Int32) then ((F_X9_keeps om2).bind fun y15 => (F_X9_runScript_70 (nI E) 100000 y15 ((0 : Int32))).bind fun zl21 => some (zl21.1, zl21.2)) else (some ((-1 : Int32), om2)) := by
      have m9 : upd om.1 0 0 9 = nI S := by rw [z_un (by omega)]; exact e9
      simp only [F_X9_runScript, z_leN, M_in, m9, z_bsN]
      rw [if_pos hin, M_f1 z0]
      simp only [z_bsN, if_true, t2, s2]
    obtain ⟨hE1, hH, hN⟩ := hG
    have hRX : ∀ om3 : ob, om3.1 9 = 0 → om3.1 15 = om2.1 15 → om3.1 16 = om2.1 16 → ot2.1 7 = om2.1 15 → ot2.1 8 = om2.1 16 → RX (upd ot2.1 1 0, ot2.2) om3 := by
      intro om3 h9 h15 h16 k7 k8
      refine ⟨0, by omega, by dsimp only; rw [z_us]; rfl, h9, ?_, ?_, fun i hi => by omega⟩
      · dsimp only; rw [z_un (by omega), h15]; exact k7
      · dsimp only; rw [z_un (by omega), h16]; exact k8
    right
    rcases s3 with ⟨h, m, hm, hRm⟩ | h
    · have hH2 : RH P B J os oH (om2.1 6) (om2.2 5) := by rw [oi 6 (by omega), z_un (by omega), orr 5 (by omega)]; exact hH
      obtain ⟨qw, qe, hE2⟩ := hE1
      have hE2 : RPos P B J os op ow oe (om2.2 1) qw qe := by rw [orr 1 (by omega)]; exact hE2
      obtain ⟨oH2, omk, p1, p2, p3, p4, p5⟩ := X_push hH2 hE2
      have hRk : RO m oc2 omk := by
        obtain ⟨r1, r2, r3⟩ := hRm
        refine ⟨r1, (p4 18 (by omega)).trans r2, fun i hi => ?_⟩
        rw [p5 17 (by omega)]
        exact r3 i hi
      obtain ⟨v, op3, ow3, oe3, g3, qw3, qe3, u1, u2, u3⟩ := L_play (x1 := nI E) hm m 0 100000 100000 J op ow oe omk qw qe (by omega) (by omega) (by omega) hRk (by rw [p5 1 (by omega)]; exact hE2) (by omega)
      have u1 : F_X4_play_2 oc2 os 100000 op ow oe 0 = _ := u1
      have u2 : F_X9_runScript_70 (nI E) 100000 omk 0 = _ := u2
      refine ⟨v, (upd ot2.1 1 0, ot2.2), op3, ow3, oe3, (omk.1, va_up omk.2 1 g3), oH2, oc2, ?_, ?_, ?_, hRX _ ?_ ?_ ?_ ?_ h.2.2.1, ⟨⟨qw3, qe3, ?_⟩, ?_, ?_⟩, ?_, ?_⟩
      · rw [hclass]
        simp only [F_X6_hasFailed]
        rw [if_pos (show upd ot2.1 1 0 7 = 0 from (z_un (by omega)).trans h.1)]
        simp only [z_bsN, if_true, p1, F_X4_play, u1]
      · rw [hmodel, if_pos h.2.1, p2]
        simp only [z_bsN, u2]
      · dsimp only; rw [p4 0 (by omega), oi 0 (by omega), z_us]
      · dsimp only; rw [p4 9 (by omega)]; exact o9
      · exact p4 15 (by omega)
      · exact p4 16 (by omega)
      · rw [h.1, h.2.1]
      · dsimp only; rw [z_vs]; exact u3.mono (by omega)
      · dsimp only; rw [z_vn (by omega)]; exact p3.mono (by omega)
      · dsimp only
        rw [z_vn (by omega), p4 7 (by omega), oi 7 (by omega), z_un (by omega), p5 3 (by omega), orr 3 (by omega)]
        exact hN.mono (by omega)
      · dsimp only; rw [p4 20 (by omega), oi 20 (by omega), z_un (by omega)]
      · dsimp only; rw [z_vn (by omega), p5 19 (by omega), orr 19 (by omega)]
    · refine ⟨-1, (upd ot2.1 1 0, ot2.2), op, ow, oe, om2, oH, oc2, ?_, ?_, ?_, hRX _ o9 rfl rfl h.2.1 h.2.2.1, ⟨?_, ?_, ?_⟩, ?_, ?_⟩
      · rw [hclass]
        simp only [F_X6_hasFailed]
        rw [if_neg (show ¬ upd ot2.1 1 0 7 = 0 from fun q => h.1 ((z_un (by omega)).symm.trans q))]
        simp only [z_bsN]
        rw [if_neg (by decide)]
      · rw [hmodel, if_neg h.w]
      · rw [oi 0 (by omega), z_us]
      · rw [orr 1 (by omega)]; exact hE1.mono (by omega)
      · rw [oi 6 (by omega), z_un (by omega), orr 5 (by omega)]; exact hH.mono (by omega)
      · rw [oi 7 (by omega), z_un (by omega), orr 3 (by omega)]; exact hN.mono (by omega)
      · rw [oi 20 (by omega), z_un (by omega)]
      · exact orr 19 (by omega)
  · refine Or.inl ⟨0, ?_, ?_⟩
    · simp only [F_X8_runScript, C_reqL e1, z_bsN]
      rw [if_neg hx, if_neg (by decide)]
    · have m9 : upd om.1 0 0 9 = nI S := by rw [z_un (by omega)]; exact e9
      simp only [F_X9_runScript, z_leN, M_in, m9, z_bsN]
      rw [if_neg hx, M_f0 (om := (upd om.1 0 0, om.2)) (c := 1) z_h0 (by decide)]
      simp only [z_bsN, z_uu]
      rfl
end SCR
