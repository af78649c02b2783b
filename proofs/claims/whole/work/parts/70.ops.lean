/-! The calls that change the game. -/
section OPS
variable {P B J J2 : Nat} {os op op2 o o2 ow oe oB om np nw ne : ob} {oH : hst} {g g2 : Nat → Int32} {q q2 qw qe : List Nat} {c0 c1 : Int32}
theorem RG.h0 (h : RG P B J oB os op ow oe np nw ne oH om) {v : Int32} : RG P B J oB os op ow oe np nw ne oH (upd om.1 0 v, om.2) := by
  obtain ⟨a, b, c⟩ := h
  refine ⟨a, ?_, ?_⟩
  · dsimp only; rw [z_un (by omega)]; exact b
  · dsimp only; rw [z_un (by omega)]; exact c
theorem RG.mono (h : RG P B J oB os op ow oe np nw ne oH om) (hJ : J ≤ J2) : RG P B J2 oB os op ow oe np nw ne oH om := ⟨h.1.mono hJ, h.2.1.mono hJ, h.2.2.mono hJ⟩
theorem zK.h0 {v : Int32} : zK om (upd om.1 0 v, om.2) := ⟨fun i hi => by dsimp only; rw [z_un (by omega)], rfl, rfl⟩
theorem zK.trans {om2 om3 : ob} (h1 : zK om om2) (h2 : zK om2 om3) : zK om om3 := ⟨fun i hi => (h2.1 i hi).trans (h1.1 i hi), h2.2.1.trans h1.2.1, h2.2.2.trans h1.2.2⟩
/-- an order that may be given, as class and model take it -/
theorem OP_gen {z : Nat} {zI x y k : Int32} {ps : Prop} [Decidable ps] (h : RG P B J oB os op ow oe np nw ne oH om) (h0 : om.1 0 = 0) (hk : k ≠ 0) (hft : F_X2_faultOf op ow oe os z x y = some (if ps then 0 else 3)) (hcan : F_X9_can om zI x y = some (if ps then 1 else 0)) :
    (¬ ps ∧ F_X8_allow oB os op ow oe oH z x y = some (3, oH) ∧ F_X9_operates om zI x y k = some (0, (upd om.1 0 k, om.2))) ∨ (ps ∧ ∃ (oH2 : hst) (omk : ob), F_X8_allow oB os op ow oe oH z x y = some (0, oH2) ∧ omk.2 1 = om.2 1 ∧ (∀ (v : Int32) (om3 : ob), F_X9_does omk zI x y = some (v, om3) → F_X9_operates om zI x y k = some (v, om3)) ∧ omk.1 0 = 0 ∧ ∀ (op2 ow2 oe2 : ob) (g2 : Nat → Int32) (qw2 qe2 : List Nat) (J2 : Nat), J ≤ J2 → RPos P B J2 os op2 ow2 oe2 g2 qw2 qe2 → RG P B J2 oB os op2 ow2 oe2 np nw ne oH2 (omk.1, va_up omk.2 1 g2) ∧ zK om (omk.1, va_up omk.2 1 g2)) := by
  by_cases c : ps
  · rw [if_pos c] at hft hcan
    obtain ⟨⟨qw, qe, hE⟩, hH, hN⟩ := h
    obtain ⟨oH2, omk, p1, p2, p3, p4, p5⟩ := X_push hH hE
    refine Or.inr ⟨c, oH2, omk, ?_, p5 1 (by omega), ?_, (p4 0 (by omega)).trans h0, ?_⟩
    · simp only [F_X8_allow, hft, z_bsN]
      rw [if_neg (by decide), if_neg (by decide), if_neg (by decide)]
      have p1 : F_X1_push oH op ow oe = some oH2 := p1
      rw [p1, z_bsN]
    · intro v om3 hd
      simp only [F_X9_operates, hcan, z_bsN, M_f1 h0, if_true, p2, hd]
    · intro op2 ow2 oe2 g2 qw2 qe2 J2 hJ hr
      refine ⟨⟨⟨qw2, qe2, ?_⟩, ?_, ?_⟩, fun i hi => ?_, ?_, ?_⟩
      · dsimp only; rw [z_vs]; exact hr
      · dsimp only; rw [z_vn (by omega)]; exact p3.mono hJ
      · dsimp only; rw [z_vn (by omega), p5 3 (by omega), p4 7 (by omega)]; exact hN.mono hJ
      · dsimp only; rw [p4 i (by omega)]
      · dsimp only; rw [z_vn (by omega), p5 8 (by omega)]
      · dsimp only; rw [z_vn (by omega), p5 19 (by omega)]
  · rw [if_neg c] at hft hcan
    refine Or.inl ⟨c, ?_, ?_⟩
    · simp only [F_X8_allow, hft, z_bsN]
      rw [if_neg (by decide), if_neg (by decide), if_pos trivial]
    · simp only [F_X9_operates, hcan, z_bsN, M_f0 h0 hk]
      rfl
theorem C_alF {z : Nat} {x y c : Int32} (hc : c = 1 ∨ c = 2 ∨ c = 3) (hft : F_X2_faultOf op ow oe os z x y = some c) : F_X8_allow oB os op ow oe oH z x y = some (c, oH) := by
  simp only [F_X8_allow, hft, z_bsN]
  rcases hc with rfl | rfl | rfl
  · rw [if_pos rfl]
  · rw [if_neg (by decide), if_pos rfl]
  · rw [if_neg (by decide), if_neg (by decide), if_pos rfl]
/-- how a call that changes the position ends -/
def zO1 (P B J : Nat) (oB os op ow oe np nw ne : ob) (oH : hst) (om : ob) (cls : Option (Int32 × Int32 × ob × hst)) (mdl : Option (Int32 × ob)) : Prop :=
  (∃ c b : Int32, (c = 1 ∨ c = 2 ∨ c = 3) ∧ cls = some (c, 0, op, oH) ∧ mdl = some (b, (upd om.1 0 c, om.2))) ∨ ∃ (v : Int32) (op2 om2 : ob) (oH2 : hst), cls = some (0, v, op2, oH2) ∧ mdl = some (v, om2) ∧ om2.1 0 = 0 ∧ RG P B J oB os op2 ow oe np nw ne oH2 om2 ∧ zK om om2
theorem X_drop (h : RG P B J oB os op ow oe np nw ne oH om) (x y : Int32) : zO1 P B J oB os op ow oe np nw ne oH om (F_X8_dropCoins oB os op ow oe oH x y) (F_X9_dropCoins om x y) := by
  have h1 := h.h0 (v := 0)
  obtain ⟨qw, qe, hE⟩ := h1.1
  have hE : RPos P B J os op ow oe (om.2 1) qw qe := hE
  have hP := hE.hP
  have z0 : ((upd om.1 0 0, om.2) : ob).1 0 = 0 := z_h0
  simp only [F_X8_dropCoins, F_X9_dropCoins, F_X9_withCoins, z_leN]
  rcases z_dec x P with hx | ⟨p, hp, -, rfl⟩
  · refine Or.inl ⟨1, 0, Or.inl rfl, ?_, ?_⟩
    · rw [C_alF (c := 1) (Or.inl rfl) (C_fx (Or.inl (by decide)) (C_hp0 hE hx))]
      rfl
    · rw [M_no0 z0 hE.h8 (by omega) hP.2 hx]
      simp only [z_bsN, z_uu]
      rfl
  · rw [M_no1 z0 hE.h8 hP.2 hp]
    simp only [z_bsN, if_true, M_in]
    by_cases hy : 1 ≤ y ∧ y ≤ 999
    · rw [if_pos hy, M_f1 z0]
      simp only [z_bsN, if_true]
      rcases OP_gen (z := 0) (zI := 0) (x := nI p) (y := y) (k := 3) (ps := ¬ om.2 1 (12 + 8 * p + 2) < y) h1 z0 (by decide) (by rw [FT_0 hE hp, if_pos hy, ite_not]) (by rw [M_can0 (show p < 10 by omega), ite_not]) with ⟨-, a1, a2⟩ | ⟨hps, oH2, omk, a1, a2, a3, a4, a5⟩
      · refine Or.inl ⟨3, 0, Or.inr (Or.inr rfl), ?_, ?_⟩
        · rw [a1]; rfl
        · rw [a2]; simp only [z_bsN, z_uu]
      · obtain ⟨v, op2, g2, d1, d2, d3⟩ := DO_0 (om := omk) (a2.symm ▸ hE) hp y
        have := a5 _ _ _ _ _ _ _ (Nat.le_refl _) d3
        refine Or.inr ⟨v, op2, (omk.1, va_up omk.2 1 g2), oH2, ?_, ?_, a4, this.1, zK.h0.trans this.2⟩
        · rw [a1]; simp only [z_bsN, if_true, d1]
        · rw [a3 _ _ d2]; simp only [z_bsN]
    · rw [if_neg hy, M_f0 z0 (c := 2) (by decide)]
      refine Or.inl ⟨2, 0, Or.inr (Or.inl rfl), ?_, ?_⟩
      · rw [C_alF (c := 2) (Or.inr (Or.inl rfl)) (by rw [FT_0 hE hp, if_neg hy])]
        rfl
      · simp only [z_bsN, z_uu]
        rfl
theorem X_pick (h : RG P B J oB os op ow oe np nw ne oH om) (x y : Int32) : zO1 P B J oB os op ow oe np nw ne oH om (F_X8_pickCoins oB os op ow oe oH x y) (F_X9_pickCoins om x y) := by
  have h1 := h.h0 (v := 0)
  obtain ⟨qw, qe, hE⟩ := h1.1
  have hE : RPos P B J os op ow oe (om.2 1) qw qe := hE
  have hP := hE.hP
  have z0 : ((upd om.1 0 0, om.2) : ob).1 0 = 0 := z_h0
  simp only [F_X8_pickCoins, F_X9_pickCoins, F_X9_withCoins, z_leN]
  rcases z_dec x P with hx | ⟨p, hp, -, rfl⟩
  · refine Or.inl ⟨1, 0, Or.inl rfl, ?_, ?_⟩
    · rw [C_alF (c := 1) (Or.inl rfl) (C_fx (Or.inl (by decide)) (C_hp0 hE hx))]
      rfl
    · rw [M_no0 z0 hE.h8 (by omega) hP.2 hx]
      simp only [z_bsN, z_uu]
      rfl
  · rw [M_no1 z0 hE.h8 hP.2 hp]
    simp only [z_bsN, if_true, M_in]
    by_cases hy : 1 ≤ y ∧ y ≤ 999
    · rw [if_pos hy, M_f1 z0]
      simp only [z_bsN, if_true]
      rcases OP_gen (z := 1) (zI := 1) (x := nI p) (y := y) (k := 3) (ps := ¬ z_gr (om.2 1) p < y) h1 z0 (by decide) (by rw [FT_1 hE hp, if_pos hy, ite_not]) (by rw [M_can1 (om := (upd om.1 0 0, om.2)) (show p < 10 by omega) (hE.b01 hp), ite_not]) with ⟨-, a1, a2⟩ | ⟨hps, oH2, omk, a1, a2, a3, a4, a5⟩
      · refine Or.inl ⟨3, 0, Or.inr (Or.inr rfl), ?_, ?_⟩
        · rw [a1]; rfl
        · rw [a2]; simp only [z_bsN, z_uu]
      · obtain ⟨v, op2, g2, d1, d2, d3⟩ := DO_1 (om := omk) (a2.symm ▸ hE) hp y
        have := a5 _ _ _ _ _ _ _ (Nat.le_refl _) d3
        refine Or.inr ⟨v, op2, (omk.1, va_up omk.2 1 g2), oH2, ?_, ?_, a4, this.1, zK.h0.trans this.2⟩
        · rw [a1]; simp only [z_bsN, if_true, d1]
        · rw [a3 _ _ d2]; simp only [z_bsN]
    · rw [if_neg hy, M_f0 z0 (c := 2) (by decide)]
      refine Or.inl ⟨2, 0, Or.inr (Or.inl rfl), ?_, ?_⟩
      · rw [C_alF (c := 2) (Or.inr (Or.inl rfl)) (by rw [FT_1 hE hp, if_neg hy])]
        rfl
      · simp only [z_bsN, z_uu]
        rfl
def zO2 (P B J : Nat) (oB os op ow oe np nw ne : ob) (oH : hst) (om : ob) (cls : Option (Int32 × Int32 × ob × hst)) (mdl : Option (Int32 × ob)) : Prop :=
  (∃ c b : Int32, (c = 1 ∨ c = 2) ∧ cls = some (c, 0, op, oH) ∧ mdl = some (b, (upd om.1 0 c, om.2))) ∨ ∃ (v : Int32) (op2 om2 : ob) (oH2 : hst), cls = some (0, v, op2, oH2) ∧ mdl = some (v, om2) ∧ om2.1 0 = 0 ∧ RG P B J oB os op2 ow oe np nw ne oH2 om2 ∧ zK om om2
theorem X_pride2 (h : RG P B J oB os op ow oe np nw ne oH om) (x y : Int32) : zO2 P B J oB os op ow oe np nw ne oH om (F_X8_setPride oB os op ow oe oH x y) (F_X9_setPride om x y) := by
  have h1 := h.h0 (v := 0)
  obtain ⟨qw, qe, hE⟩ := h1.1
  have hE : RPos P B J os op ow oe (om.2 1) qw qe := hE
  have hP := hE.hP
  have z0 : ((upd om.1 0 0, om.2) : ob).1 0 = 0 := z_h0
  simp only [F_X8_setPride, F_X9_setPride, z_leN]
  rcases z_dec x P with hx | ⟨p, hp, -, rfl⟩
  · refine Or.inl ⟨1, 0, Or.inl rfl, ?_, ?_⟩
    · rw [C_alF (c := 1) (Or.inl rfl) (C_fx (Or.inl (by decide)) (C_hp0 hE hx))]
      rfl
    · rw [M_no0 z0 hE.h8 (by omega) hP.2 hx]
      simp only [z_bsN, z_uu]
      rfl
  · rw [M_no1 z0 hE.h8 hP.2 hp]
    simp only [z_bsN, if_true, M_in]
    by_cases hy : 0 ≤ y ∧ y ≤ 40
    · rw [if_pos hy, M_f1 z0]
      simp only [z_bsN, if_true]
      rcases OP_gen (z := 7) (zI := 7) (x := nI p) (y := y) (k := 3) (ps := True) h1 z0 (by decide) (by rw [FT_7 hE hp, if_pos hy, if_pos trivial]) (by rw [M_can7, if_pos trivial]) with ⟨hn, a1, a2⟩ | ⟨hps, oH2, omk, a1, a2, a3, a4, a5⟩
      · exact absurd trivial hn
      · obtain ⟨v, op2, g2, d1, d2, d3⟩ := DO_7 (om := omk) (a2.symm ▸ hE) hp y
        have := a5 _ _ _ _ _ _ _ (Nat.le_refl _) d3
        refine Or.inr ⟨v, op2, (omk.1, va_up omk.2 1 g2), oH2, ?_, ?_, a4, this.1, zK.h0.trans this.2⟩
        · rw [a1]; simp only [z_bsN, if_true, d1]
        · rw [a3 _ _ d2]; simp only [z_bsN]
    · rw [if_neg hy, M_f0 z0 (c := 2) (by decide)]
      refine Or.inl ⟨2, 0, Or.inr rfl, ?_, ?_⟩
      · rw [C_alF (c := 2) (Or.inr (Or.inl rfl)) (by rw [FT_7 hE hp, if_neg hy])]
        rfl
      · simp only [z_bsN, z_uu]
        rfl
/-- how a call that changes the queues ends -/
def zOq (P B J : Nat) (oB os op ow oe np nw ne : ob) (oH : hst) (om : ob) (cls : Option (Int32 × Int32 × ob × ob × hst)) (mdl : Option (Int32 × ob)) : Prop :=
  (∃ c d b : Int32, ((c = 1 ∧ d = 1) ∨ (c = 2 ∧ d = 2) ∨ (c = 3 ∧ d = 3)) ∧ cls = some (c, 0, ow, oe, oH) ∧ mdl = some (b, (upd om.1 0 d, om.2))) ∨ ∃ (v : Int32) (ow2 oe2 om2 : ob) (oH2 : hst), cls = some (0, v, ow2, oe2, oH2) ∧ mdl = some (v, om2) ∧ om2.1 0 = 0 ∧ RG P B J oB os op ow2 oe2 np nw ne oH2 om2 ∧ zK om om2
def zOu (P B J : Nat) (oB os op ow oe np nw ne : ob) (oH : hst) (om : ob) (cls : Option (Int32 × Int32 × ob × ob × hst)) (mdl : Option (Int32 × ob)) : Prop :=
  (∃ c d b : Int32, ((c = 1 ∧ d = 1) ∨ (c = 3 ∧ d = 2)) ∧ cls = some (c, 0, ow, oe, oH) ∧ mdl = some (b, (upd om.1 0 d, om.2))) ∨ ∃ (v : Int32) (ow2 oe2 om2 : ob) (oH2 : hst), cls = some (0, v, ow2, oe2, oH2) ∧ mdl = some (v, om2) ∧ om2.1 0 = 0 ∧ RG P B J oB os op ow2 oe2 np nw ne oH2 om2 ∧ zK om om2
def zOt (P B J : Nat) (oB os op ow oe np nw ne : ob) (oH : hst) (om : ob) (cls : Option (Int32 × Int32 × ob × ob × ob × hst)) (mdl : Option (Int32 × ob)) : Prop :=
  (∃ c d b : Int32, ((c = 2 ∧ d = 1) ∨ (c = 3 ∧ d = 2)) ∧ cls = some (c, 0, op, ow, oe, oH) ∧ mdl = some (b, (upd om.1 0 d, om.2))) ∨ ∃ (v : Int32) (op2 ow2 oe2 om2 : ob) (oH2 : hst), cls = some (0, v, op2, ow2, oe2, oH2) ∧ mdl = some (v, om2) ∧ om2.1 0 = 0 ∧ RG P B J oB os op2 ow2 oe2 np nw ne oH2 om2 ∧ zK om om2
theorem X_join (h : RG P B J oB os op ow oe np nw ne oH om) (hJ : J + 2000 < 2 ^ 31) (x y : Int32) : zOq P B (J + 1) oB os op ow oe np nw ne oH om (F_X8_joinQueue oB os op ow oe oH x y) (F_X9_joinQueue om x y) := by
  have h1 := h.h0 (v := 0)
  obtain ⟨qw, qe, hE⟩ := h1.1
  have hE : RPos P B J os op ow oe (om.2 1) qw qe := hE
  have hP := hE.hP
  have z0 : ((upd om.1 0 0, om.2) : ob).1 0 = 0 := z_h0
  simp only [F_X8_joinQueue, F_X9_joinQueue, z_leN]
  rcases z_dec x P with hx | ⟨p, hp, -, rfl⟩
  · refine Or.inl ⟨1, 1, 0, Or.inl ⟨rfl, rfl⟩, ?_, ?_⟩
    · rw [C_alF (c := 1) (Or.inl rfl) (C_fx (Or.inl (by decide)) (C_hp0 hE hx))]
      rfl
    · rw [M_no0 z0 hE.h8 (by omega) hP.2 hx]
      simp only [z_bsN, z_uu]
      rfl
  · rw [M_no1 z0 hE.h8 hP.2 hp]
    simp only [z_bsN, if_true, M_in]
    by_cases hy : 0 ≤ y ∧ y ≤ 99
    · rw [if_pos hy, M_f1 z0]
      simp only [z_bsN, if_true]
      rcases OP_gen (z := 5) (zI := 5) (x := nI p) (y := y) (k := 3) (ps := ¬ 0 < om.2 1 (12 + 8 * p + 6)) h1 z0 (by decide) (by rw [FT_5 hE hp, if_pos hy, ite_not]) (by rw [M_can5 (show p < 10 by omega), ite_not]) with ⟨-, a1, a2⟩ | ⟨hps, oH2, omk, a1, a2, a3, a4, a5⟩
      · refine Or.inl ⟨3, 3, 0, Or.inr (Or.inr ⟨rfl, rfl⟩), ?_, ?_⟩
        · rw [a1]; rfl
        · rw [a2]; simp only [z_bsN, z_uu]
      · obtain ⟨v, ow2, oe2, g2, qw2, qe2, d1, d2, d3⟩ := DO_5 (om := omk) (a2.symm ▸ hE) (by omega) hp (by rw [a2]; exact hps) hy
        have := a5 _ _ _ _ _ _ _ (by omega) d3
        refine Or.inr ⟨v, ow2, oe2, (omk.1, va_up omk.2 1 g2), oH2, ?_, ?_, a4, this.1, zK.h0.trans this.2⟩
        · rw [a1]; simp only [z_bsN, if_true, d1]
        · rw [a3 _ _ d2]; simp only [z_bsN]
    · rw [if_neg hy, M_f0 z0 (c := 2) (by decide)]
      refine Or.inl ⟨2, 2, 0, Or.inr (Or.inl ⟨rfl, rfl⟩), ?_, ?_⟩
      · rw [C_alF (c := 2) (Or.inr (Or.inl rfl)) (by rw [FT_5 hE hp, if_neg hy])]
        rfl
      · simp only [z_bsN, z_uu]
        rfl
theorem X_quit (h : RG P B J oB os op ow oe np nw ne oH om) (hJ : J + 2000 < 2 ^ 31) (x : Int32) : zOu P B J oB os op ow oe np nw ne oH om (F_X8_quitQueue oB os op ow oe oH x) (F_X9_quitQueue om x) := by
  have h1 := h.h0 (v := 0)
  obtain ⟨qw, qe, hE⟩ := h1.1
  have hE : RPos P B J os op ow oe (om.2 1) qw qe := hE
  have hP := hE.hP
  have z0 : ((upd om.1 0 0, om.2) : ob).1 0 = 0 := z_h0
  simp only [F_X8_quitQueue, F_X9_quitQueue, z_leN]
  rcases z_dec x P with hx | ⟨p, hp, -, rfl⟩
  · refine Or.inl ⟨1, 1, 0, Or.inl ⟨rfl, rfl⟩, ?_, ?_⟩
    · rw [C_alF (c := 1) (Or.inl rfl) (C_fx (Or.inl (by decide)) (C_hp0 hE hx))]
      rfl
    · rw [M_no0 z0 hE.h8 (by omega) hP.2 hx]
      simp only [z_bsN, z_uu]
      rfl
  · rw [M_no1 z0 hE.h8 hP.2 hp]
    simp only [z_bsN, if_true]
    rcases OP_gen (z := 6) (zI := 6) (x := nI p) (y := 0) (k := 2) (ps := 0 < om.2 1 (12 + 8 * p + 6)) h1 z0 (by decide) (by rw [FT_6 hE hp]) (by rw [M_can6 (show p < 10 by omega)]) with ⟨-, a1, a2⟩ | ⟨hps, oH2, omk, a1, a2, a3, a4, a5⟩
    · refine Or.inl ⟨3, 2, 0, Or.inr ⟨rfl, rfl⟩, ?_, ?_⟩
      · rw [a1]; rfl
      · rw [a2]; simp only [z_bsN, z_uu]
    · obtain ⟨v, ow2, oe2, g2, qw2, qe2, d1, d2, d3⟩ := DO_6 (om := omk) (a2.symm ▸ hE) hp (by rw [a2]; exact hps) 0
      have := a5 _ _ _ _ _ _ _ (Nat.le_refl _) d3
      refine Or.inr ⟨v, ow2, oe2, (omk.1, va_up omk.2 1 g2), oH2, ?_, ?_, a4, this.1, zK.h0.trans this.2⟩
      · rw [a1]; simp only [z_bsN, if_true, d1]
      · rw [a3 _ _ d2]; simp only [z_bsN]
theorem X_turns (h : RG P B J oB os op ow oe np nw ne oH om) (hJ : J + 2000 < 2 ^ 31) (x : Int32) : zOt P B (J + 2000) oB os op ow oe np nw ne oH om (F_X8_passTurns oB os op ow oe oH x) (F_X9_passTurns om x) := by
  have h1 := h.h0 (v := 0)
  obtain ⟨qw, qe, hE⟩ := h1.1
  have hE : RPos P B J os op ow oe (om.2 1) qw qe := hE
  have hP := hE.hP
  have z0 : ((upd om.1 0 0, om.2) : ob).1 0 = 0 := z_h0
  simp only [F_X8_passTurns, F_X9_passTurns, z_leN, M_in]
  by_cases hy : 1 ≤ x ∧ x ≤ 50
  · rw [if_pos hy]
    simp only [z_bsN]
    rw [M_f1 z0]
    simp only [z_bsN, if_true]
    rcases OP_gen (z := 8) (zI := 8) (x := x) (y := 0) (k := 2) (ps := ¬ 10000 < om.2 1 0 + x) h1 z0 (by decide) (by rw [FT_8 hE, if_pos hy, ite_not]) (by rw [M_can8, ite_not]) with ⟨-, a1, a2⟩ | ⟨hps, oH2, omk, a1, a2, a3, a4, a5⟩
    · refine Or.inl ⟨3, 2, 0, Or.inr ⟨rfl, rfl⟩, ?_, ?_⟩
      · rw [a1]; rfl
      · rw [a2]; simp only [z_bsN, z_uu]
    · obtain ⟨v, op2, ow2, oe2, g2, qw2, qe2, d1, d2, d3⟩ := DO_8 (om := omk) (a2.symm ▸ hE) hJ hy (by rw [a2]; exact hps) 0
      have := a5 _ _ _ _ _ _ _ (by omega) d3
      refine Or.inr ⟨v, op2, ow2, oe2, (omk.1, va_up omk.2 1 g2), oH2, ?_, ?_, a4, this.1, zK.h0.trans this.2⟩
      · rw [a1]; simp only [z_bsN, if_true, d1]
      · rw [a3 _ _ d2]; simp only [z_bsN]
  · rw [if_neg hy]
    simp only [z_bsN]
    rw [M_f0 z0 (c := 1) (by decide)]
    refine Or.inl ⟨2, 1, 0, Or.inl ⟨rfl, rfl⟩, ?_, ?_⟩
    · rw [C_alF (c := 2) (Or.inr (Or.inl rfl)) (by rw [FT_8 hE, if_neg hy])]
      rfl
    · simp only [z_bsN, z_uu]
      rfl
theorem X_lay (h : RG P B J oB os op ow oe np nw ne oH om) (x y : Int32) : zO1 P B J oB os op ow oe np nw ne oH om (F_X8_layRoyalCoin oB os op ow oe oH x y) (F_X9_layRoyalCoin om x y) := by
  have h1 := h.h0 (v := 0)
  obtain ⟨qw, qe, hE⟩ := h1.1
  have hE : RPos P B J os op ow oe (om.2 1) qw qe := hE
  have hP := hE.hP
  have z0 : ((upd om.1 0 0, om.2) : ob).1 0 = 0 := z_h0
  simp only [F_X8_layRoyalCoin, F_X9_layRoyalCoin, F_X9_withRoyal, z_leN]
  rcases z_dec x P with hx | ⟨p, hp, -, rfl⟩
  · refine Or.inl ⟨1, 0, Or.inl rfl, ?_, ?_⟩
    · rw [C_alF (c := 1) (Or.inl rfl) (C_fx (Or.inr (by decide)) (C_hp0 hE hx))]
      rfl
    · rw [M_no0 z0 hE.h8 (by omega) hP.2 hx]
      simp only [z_bsN, z_uu]
      rfl
  · rw [M_no1 z0 hE.h8 hP.2 hp]
    simp only [z_bsN, if_true]
    rcases z_dec y P with hy | ⟨q, hq, -, rfl⟩
    · refine Or.inl ⟨1, 0, Or.inl rfl, ?_, ?_⟩
      · rw [C_alF (c := 1) (Or.inl rfl) (C_fy (by decide) (C_hp hE hp) (C_hp0 hE hy))]
        rfl
      · rw [M_nk0 z0 hE.h8 (by omega) hP.2 hy]
        simp only [z_bsN, z_uu]
        rfl
    · by_cases hk : om.2 1 (12 + 8 * q) = 1
      · rw [M_nk1 z0 hE.h8 hP.2 hq hk]
        simp only [z_bsN, if_true]
        rcases OP_gen (z := 2) (zI := 2) (x := nI p) (y := nI q) (k := 3) (ps := om.2 1 (102 + 3 * q) = nI p) h1 z0 (by decide) (by rw [FT_2 hE hp hq, if_pos hk]) (by rw [M_can2 (show q < 10 by omega)]) with ⟨-, a1, a2⟩ | ⟨hps, oH2, omk, a1, a2, a3, a4, a5⟩
        · refine Or.inl ⟨3, 0, Or.inr (Or.inr rfl), ?_, ?_⟩
          · rw [a1]; rfl
          · rw [a2]; simp only [z_bsN, z_uu]
        · obtain ⟨v, op2, g2, d1, d2, d3⟩ := DO_2 (om := omk) (a2.symm ▸ hE) hp hq (by rw [a2]; exact hk)
          have := a5 _ _ _ _ _ _ _ (Nat.le_refl _) d3
          refine Or.inr ⟨v, op2, (omk.1, va_up omk.2 1 g2), oH2, ?_, ?_, a4, this.1, zK.h0.trans this.2⟩
          · rw [a1]; simp only [z_bsN, if_true, d1]
          · rw [a3 _ _ d2]; simp only [z_bsN]
      · rw [M_nk2 z0 hE.h8 hP.2 hq hk]
        refine Or.inl ⟨2, 0, Or.inr (Or.inl rfl), ?_, ?_⟩
        · rw [C_alF (c := 2) (Or.inr (Or.inl rfl)) (by rw [FT_2 hE hp hq, if_neg hk])]
          rfl
        · simp only [z_bsN, z_uu]
          rfl
theorem X_lift (h : RG P B J oB os op ow oe np nw ne oH om) (x y : Int32) : zO1 P B J oB os op ow oe np nw ne oH om (F_X8_liftRoyalCoin oB os op ow oe oH x y) (F_X9_liftRoyalCoin om x y) := by
  have h1 := h.h0 (v := 0)
  obtain ⟨qw, qe, hE⟩ := h1.1
  have hE : RPos P B J os op ow oe (om.2 1) qw qe := hE
  have hP := hE.hP
  have z0 : ((upd om.1 0 0, om.2) : ob).1 0 = 0 := z_h0
  simp only [F_X8_liftRoyalCoin, F_X9_liftRoyalCoin, F_X9_withRoyal, z_leN]
  rcases z_dec x P with hx | ⟨p, hp, -, rfl⟩
  · refine Or.inl ⟨1, 0, Or.inl rfl, ?_, ?_⟩
    · rw [C_alF (c := 1) (Or.inl rfl) (C_fx (Or.inr (by decide)) (C_hp0 hE hx))]
      rfl
    · rw [M_no0 z0 hE.h8 (by omega) hP.2 hx]
      simp only [z_bsN, z_uu]
      rfl
  · rw [M_no1 z0 hE.h8 hP.2 hp]
    simp only [z_bsN, if_true]
    rcases z_dec y P with hy | ⟨q, hq, -, rfl⟩
    · refine Or.inl ⟨1, 0, Or.inl rfl, ?_, ?_⟩
      · rw [C_alF (c := 1) (Or.inl rfl) (C_fy (by decide) (C_hp hE hp) (C_hp0 hE hy))]
        rfl
      · rw [M_nk0 z0 hE.h8 (by omega) hP.2 hy]
        simp only [z_bsN, z_uu]
        rfl
    · by_cases hk : om.2 1 (12 + 8 * q) = 1
      · rw [M_nk1 z0 hE.h8 hP.2 hq hk]
        simp only [z_bsN, if_true]
        rcases OP_gen (z := 3) (zI := 3) (x := nI p) (y := nI q) (k := 3) (ps := om.2 1 (102 + 3 * q) = -1 ∧ om.2 1 (102 + 3 * q + 1) = om.2 1 (12 + 8 * p + 1)) h1 z0 (by decide) (by rw [FT_3 hE hp hq, if_pos hk]) (by rw [M_can3 (show p < 10 by omega) (show q < 10 by omega)]) with ⟨-, a1, a2⟩ | ⟨hps, oH2, omk, a1, a2, a3, a4, a5⟩
        · refine Or.inl ⟨3, 0, Or.inr (Or.inr rfl), ?_, ?_⟩
          · rw [a1]; rfl
          · rw [a2]; simp only [z_bsN, z_uu]
        · obtain ⟨v, op2, g2, d1, d2, d3⟩ := DO_3 (om := omk) (a2.symm ▸ hE) hp hq (by rw [a2]; exact hk)
          have := a5 _ _ _ _ _ _ _ (Nat.le_refl _) d3
          refine Or.inr ⟨v, op2, (omk.1, va_up omk.2 1 g2), oH2, ?_, ?_, a4, this.1, zK.h0.trans this.2⟩
          · rw [a1]; simp only [z_bsN, if_true, d1]
          · rw [a3 _ _ d2]; simp only [z_bsN]
      · rw [M_nk2 z0 hE.h8 hP.2 hq hk]
        refine Or.inl ⟨2, 0, Or.inr (Or.inl rfl), ?_, ?_⟩
        · rw [C_alF (c := 2) (Or.inr (Or.inl rfl)) (by rw [FT_3 hE hp hq, if_neg hk])]
          rfl
        · simp only [z_bsN, z_uu]
          rfl
theorem X_swap (h : RG P B J oB os op ow oe np nw ne oH om) (x y : Int32) : zO1 P B J oB os op ow oe np nw ne oH om (F_X8_swapRags oB os op ow oe oH x y) (F_X9_swapRags om x y) := by
  have h1 := h.h0 (v := 0)
  obtain ⟨qw, qe, hE⟩ := h1.1
  have hE : RPos P B J os op ow oe (om.2 1) qw qe := hE
  have hP := hE.hP
  have z0 : ((upd om.1 0 0, om.2) : ob).1 0 = 0 := z_h0
  simp only [F_X8_swapRags, F_X9_swapRags, z_leN]
  rcases z_dec x P with hx | ⟨p, hp, -, rfl⟩
  · refine Or.inl ⟨1, 0, Or.inl rfl, ?_, ?_⟩
    · rw [C_alF (c := 1) (Or.inl rfl) (C_fx (Or.inr (by decide)) (C_hp0 hE hx))]
      rfl
    · rw [M_no0 z0 hE.h8 (by omega) hP.2 hx]
      simp only [z_bsN, z_uu]
      rfl
  · rw [M_no1 z0 hE.h8 hP.2 hp]
    simp only [z_bsN, if_true]
    rcases z_dec y P with hy | ⟨q, hq, -, rfl⟩
    · refine Or.inl ⟨1, 0, Or.inl rfl, ?_, ?_⟩
      · rw [C_alF (c := 1) (Or.inl rfl) (C_fy (by decide) (C_hp hE hp) (C_hp0 hE hy))]
        rfl
      · rw [M_no0 z0 hE.h8 (by omega) hP.2 hy]
        simp only [z_bsN, z_uu]
        rfl
    · rw [M_no1 z0 hE.h8 hP.2 hq]
      simp only [z_bsN, if_true]
      by_cases hk : p ≠ q
      · rw [if_neg (fun e => hk ((nI_eq (by omega) (by omega)).mp e)), M_f1 z0]
        simp only [z_bsN, if_true]
        rcases OP_gen (z := 4) (zI := 4) (x := nI p) (y := nI q) (k := 3) (ps := om.2 1 (12 + 8 * p + 1) = om.2 1 (12 + 8 * q + 1)) h1 z0 (by decide) (by rw [FT_4 hE hp hq, if_pos hk]) (by rw [M_can4 (show p < 10 by omega) (show q < 10 by omega)]) with ⟨-, a1, a2⟩ | ⟨hps, oH2, omk, a1, a2, a3, a4, a5⟩
        · refine Or.inl ⟨3, 0, Or.inr (Or.inr rfl), ?_, ?_⟩
          · rw [a1]; rfl
          · rw [a2]; simp only [z_bsN, z_uu]
        · obtain ⟨v, op2, g2, d1, d2, d3⟩ := DO_4 (om := omk) (a2.symm ▸ hE) hp hq hk
          have := a5 _ _ _ _ _ _ _ (Nat.le_refl _) d3
          refine Or.inr ⟨v, op2, (omk.1, va_up omk.2 1 g2), oH2, ?_, ?_, a4, this.1, zK.h0.trans this.2⟩
          · rw [a1]; simp only [z_bsN, if_true, d1]
          · rw [a3 _ _ d2]; simp only [z_bsN]
      · rw [if_pos (by rw [Decidable.not_not.mp hk]), M_f0 z0 (c := 2) (by decide)]
        refine Or.inl ⟨2, 0, Or.inr (Or.inl rfl), ?_, ?_⟩
        · rw [C_alF (c := 2) (Or.inr (Or.inl rfl)) (by rw [FT_4 hE hp hq, if_neg hk])]
          rfl
        · simp only [z_bsN, z_uu]
          rfl
end OPS
