/-! loadGame, over a text that is known. -/
def headX (a1 a2 a3 a4 : Nat) (R : List Nat) : List Nat := Wd 1 ++ (numL a1 ++ (numL a2 ++ (numL a3 ++ (numL a4 ++ 59 :: R))))
def begG (a1 a2 a3 a4 : Nat) : Nat → Int32 := fun i => if i = 1 then nI a1 else if i = 2 then nI a2 else if i = 3 then nI a3 else if i = 4 then nI a4 else 0
section LGAME
variable {ot od os op ow oe oB : ob} {oH : hst} {b : Nat → Int32} {n a1 a2 a3 a4 : Nat} {R : List Nat}
theorem begG0 {i : Nat} (h : i = 0 ∨ 4 < i) : begG a1 a2 a3 a4 i = 0 := by
  unfold begG
  rw [if_neg (by omega), if_neg (by omega), if_neg (by omega), if_neg (by omega)]
theorem L_begin (h1 : a1 ≤ 90) (h2 : a2 ≤ 9) (h3 : a3 ≤ 99) (h4 : a4 ≤ 99) : ∃ od2 : ob, F_X5_begin od (nI a1) (nI a2) (nI a3) (nI a4) = some od2 ∧ LD 0 0 od2 (begG a1 a2 a3 a4) ∧ LX 0 0 (begG a1 a2 a3 a4) := by
  refine ⟨(upd (upd (upd (upd (upd (upd od.1 0 (nI a1)) 1 (nI a2)) 2 (nI a3)) 3 (nI a4)) 4 0) 5 0, od.2), ?_, ⟨⟨?_, ?_, ?_, ?_, ?_, ?_, ?_, ?_, by omega, by omega⟩, ⟨⟨⟨?_, ?_⟩, ?_, ?_⟩, ?_, ?_, ?_, ?_, ?_, ?_⟩, fun q hq => by omega, fun q hq => ?_, fun c hc => by omega⟩, ⟨⟨?_, ?_⟩, ?_, ?_⟩, fun q hq => by omega, rfl, ?_, by omega⟩
  · simp only [F_X5_begin, z_leN]
  · dsimp only; rw [z_un (by omega), z_un (by omega), z_un (by omega), z_un (by omega), z_un (by omega), z_us]; rfl
  · dsimp only; rw [z_un (by omega), z_un (by omega), z_un (by omega), z_un (by omega), z_us]; rfl
  · dsimp only; rw [z_un (by omega), z_un (by omega), z_un (by omega), z_us]; rfl
  · dsimp only; rw [z_un (by omega), z_un (by omega), z_us]; rfl
  · dsimp only; rw [z_un (by omega), z_us]; rfl
  · dsimp only; rw [z_us]; rfl
  · exact begG0 (by omega)
  · exact begG0 (by omega)
  · exact nI_pos' (by omega)
  · exact nI_le (b := 90) h1 (by omega)
  · exact nI_pos' (by omega)
  · exact nI_le (b := 9) h2 (by omega)
  · exact begG0 (by omega)
  · exact begG0 (by omega)
  · exact begG0 (by omega)
  · exact begG0 (by omega)
  · exact begG0 (by omega)
  · exact begG0 (by omega)
  · exact ⟨begG0 (by omega), begG0 (by omega), begG0 (by omega), begG0 (by omega), begG0 (by omega)⟩
  · show 0 ≤ (nI a3).toInt; rw [nI_toInt (by omega)]; omega
  · show (nI a3).toInt ≤ 99; rw [nI_toInt (by omega)]; omega
  · show 0 ≤ (nI a4).toInt; rw [nI_toInt (by omega)]; omega
  · show (nI a4).toInt ≤ 99; rw [nI_toInt (by omega)]; omega
  · exact begG0 (by omega)
theorem R_head (h : AtL ot b n (headX a1 a2 a3 a4 R)) (h1 : a1 ≤ 90) (h2 : a2 ≤ 9) (h3 : a3 ≤ 99) (h4 : a4 ≤ 99) (hR : LN R) : ∃ ot2 od2 : ob, F_X8_readHeader ot od = some (ot2, od2) ∧ AtL ot2 b n R ∧ LD 0 0 od2 (begG a1 a2 a3 a4) ∧ LX 0 0 (begG a1 a2 a3 a4) := by
  have t1 := h.word (t := 1) (by omega) (by omega) ND.num
  obtain ⟨o1, e1, t2⟩ := TK_word t1 (by omega) (by omega) (show a1 < 100 by omega) ND.num
  obtain ⟨o2, e2, t3⟩ := t2.num (show a2 < 100 by omega) ND.num
  have c2 := TK_num t2 (lo := 0) (hi := 90) (nI_pos (by omega)) (nI_le (b := 90) (by omega) (by omega)) e2
  obtain ⟨o3, e3, t4⟩ := t3.num (show a3 < 100 by omega) ND.num
  have c3 := TK_num t3 (lo := 0) (hi := 9) (nI_pos (by omega)) (nI_le (b := 9) (by omega) (by omega)) e3
  obtain ⟨o4, e4, t5⟩ := t4.num (show a4 < 100 by omega) ND.semi
  have c4 := TK_num t4 (lo := 0) (hi := 99) (nI_pos (by omega)) (nI_le (b := 99) (by omega) (by omega)) e4
  obtain ⟨o5, e5, t6⟩ := t5.semi
  have c5 := TK_num t5 (lo := 0) (hi := 99) (nI_pos (by omega)) (nI_le (b := 99) (by omega) (by omega)) e5
  obtain ⟨o6, e6, t7⟩ := TK_semi t6 hR
  obtain ⟨od2, d1, d2, d3⟩ := L_begin (od := od) h1 h2 h3 h4
  exact ⟨o6, od2, by simp only [F_X8_readHeader, e1, c2, c3, c4, c5, e6, d1, z_bsN], t7, d2, d3⟩
theorem R_game {ps : List psn} {q0 : brg} {bs : List brg} (hA : At (ot.2 0) 0 (headX a1 a2 a3 a4 (tplX ps (tblX (q0 :: bs) [])))) (hn : n = (headX a1 a2 a3 a4 (tplX ps (tblX (q0 :: bs) []))).length) (hn5 : n ≤ 500) (hS : nI n ≤ ot.1 1) (h1 : a1 ≤ 90) (h2 : a2 ≤ 9) (h3 : a3 ≤ 99) (h4 : a4 ≤ 99) (hps : ∀ q : psn, q ∈ ps → okp q) (hbs : ∀ q : brg, q ∈ q0 :: bs → okb q) (hP : 3 ≤ ps.length ∧ ps.length ≤ 6) (hB : (q0 :: bs).length ≤ 4) : ∃ (oB2 ot2 od2 os2 op2 ow2 oe2 : ob) (oH2 : hst) (g : Nat → Int32) (C : Nat), F_X8_loadGame oB ot od os op ow oe oH (nI n) = some (nI ps.length, oB2, ot2, od2, os2, op2, ow2, oe2, oH2) ∧ ot2.1 7 = 0 ∧ ot2.1 8 = -1 ∧ RPos ps.length (q0 :: bs).length 0 os2 op2 ow2 oe2 g [] [] ∧ XI ps.length C g ∧ g 0 = 0 ∧ g 5 = 0 := by
  have hTP : TP (upd (upd (upd (upd ot.1 7 0) 8 (-1)) 2 (nI n)) 5 0, ot.2) (ot.2 0) n 0 (headX a1 a2 a3 a4 (tplX ps (tblX (q0 :: bs) []))) := by
    refine ⟨rfl, ?_, ?_, ?_, ?_, by omega, hn5, hA⟩
    · dsimp only; rw [z_un (by omega), z_us]
    · dsimp only; rw [z_un (by omega), z_un (by omega), z_un (by omega), z_us]
    · dsimp only; rw [z_un (by omega), z_un (by omega), z_us]
    · dsimp only; rw [z_us]; rfl
  obtain ⟨o1, e1, w1⟩ := ADVL hTP (Or.inr ⟨1, _, by omega, by omega, rfl, ND.num⟩)
  have hop : F_X6_open ot (nI n) = some o1 := by
    simp only [F_X6_open, z_leN, e1, z_bsN]
  obtain ⟨o2, d2, e2, w2, l2, x2⟩ := R_head (od := od) w1 h1 h2 h3 h4 (LN.tpl LN.tbl)
  have w2 : AtL o2 (ot.2 0) n (tplX ps (Wd 6 ++ (numL q0.1 ++ (numL q0.2.1 ++ (numL q0.2.2 ++ 59 :: tblX bs []))))) := w2
  obtain ⟨o3, d3, g3, C, e3, w3, l3, x3⟩ := R_people ND.num ps 0 0 100000 o2 d2 _ (by omega) (by omega) hps w2 l2 x2
  rw [Nat.zero_add] at e3 l3 x3
  have e3 : F_X8_readPeople_2 100000 o2 d2 0 = _ := e3
  obtain ⟨o4, d4, g4, e4, w4, l4, x4⟩ := R_bridges (p := ps.length) (C := C) (q0 :: bs) 0 100000 o3 d3 g3 (by omega) (by omega) (by omega) hbs w3 l3 x3
  rw [Nat.zero_add] at e4 l4
  have e4 : F_X8_readBridges_2 100000 o3 d3 0 = _ := e4
  have hd3 : d3.1 4 = nI ps.length := l3.1.2.2.2.2.1
  have hd4 : d4.1 5 = nI (q0 :: bs).length := l4.1.2.2.2.2.2.1
  have hB1 : 1 ≤ (q0 :: bs).length := by rw [List.length_cons]; omega
  have r3 : F_X8_readPeople o2 d2 = some (o3, d3) := by
    simp only [F_X8_readPeople, e3, z_bsN, hd3]
    rw [if_pos (show (3 : Int32) ≤ nI ps.length from nI_le (a := 3) hP.1 (by omega))]
  obtain ⟨e, ⟨p0, p2, p7, p8, p5, pl, pn, pA⟩, k3⟩ := w4
  have r4 : F_X8_readBridges o3 d3 = some (o4, d4) := by
    simp only [F_X8_readBridges, e4, z_bsN, hd4, F_X6_isAtEnd, p7, k3]
    rw [if_neg (nI_ne0 hB1 (by omega)), if_pos trivial, if_pos trivial, z_bsN, if_neg (by decide)]
  obtain ⟨os2, c1, c2⟩ := C_copyS (os := os) l4
  obtain ⟨y, y1, y2⟩ := C_begin (op := op) (ow := ow) (oe := oe) c2 hP.1 hB1
  obtain ⟨⟨a0, b1, b2, b3, b4, b5, b8, b9, bp, bb⟩, ⟨hl, z0, z5, z6, z7, z11, z10⟩, hpp, hz, hbb⟩ := c2
  obtain ⟨xk, xn, xs, x10, xc⟩ := x4
  refine ⟨(upd oB.1 10 0, oB.2), (upd o4.1 1 0, o4.2), d4, os2, y.1, y.2.1, y.2.2, ((upd oH.1.1 2 0, oH.1.2), oH.2), g4, C, ?_, ?_, ?_, y2, ⟨⟨⟨?_, ?_, ?_⟩, xn, ?_, by omega, x10⟩, xk, fun p q hp hq e => ?_⟩, z0, z5⟩
  · have hrq : F_X8_requireLength oB ot (nI n) = some () := by
      simp only [F_X8_requireLength]
      rw [if_neg (nI_pos (by omega)), if_pos hS]
    have hff : F_X6_hasFailed (upd o4.1 1 0, o4.2) = some 0 := by
      have q7 : ((upd o4.1 1 0, o4.2) : ob).1 7 = 0 := by dsimp only; rw [z_un (by omega)]; exact p7
      exact if_pos q7
    simp only [F_X8_loadGame, hrq, hop, e2, r3, r4, z_bsN, z_leN, hff, if_true, c1, y1, F_X1_clear, b4]
  · dsimp only; rw [z_un (by omega)]; exact p7
  · dsimp only; rw [z_un (by omega)]; exact p8
  · rw [z5]; exact Int.le_refl _
  · rw [z6]; exact Int.le_refl _
  · rw [z7]; exact Int.le_refl _
  · rw [z5, z6, z7, i_0, xs]; omega
  · rw [(hpp p hp).2.2.2.2.2.2.1, (hpp q hq).2.2.2.2.2.2.1] at e
    exact (nI_eq (by omega) (by omega)).mp e
end LGAME
