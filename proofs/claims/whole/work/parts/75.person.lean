/-! One person of a text. -/
section PERSON
variable {ot om od ot2 om2 od2 ot3 om3 : ob} {E n s p b : Nat} {g g2 : Nat → Int32}
theorem z_first0 {t : Nat} {c : Int32} (h : F_X6_isAtWord ot t = some 1) (hl : 0 < rx_len.getD t 0) (hc : rx_chr t 0 = some c) : rx_at 500 (ot.2 0) (ot.1 4 + 0) = c := by
  have hz := z_len t
  simp only [F_X6_isAtWord] at h
  split at h
  · split at h
    · split at h
      · have h : F_X6_isAtWord_35 ot t (99999 + 1) 0 = some 1 := h
        rw [F_X6_isAtWord_35, if_neg (nI_nle hl (by omega)), hc] at h
        simp only [z_bsN] at h
        split at h
        · assumption
        · cases h
      · cases h
    · cases h
  · cases h
theorem z_banks (h1 : F_X6_isAtWord ot 4 = some 1) (h2 : F_X6_isAtWord ot 5 = some 1) : False := by
  have a := z_first0 (c := 119) h1 (by decide) (by decide)
  have b := z_first0 (c := 101) h2 (by decide) (by decide)
  rw [a] at b
  exact absurd b (by decide)
theorem M_here {w1 w2 : Int32} (h1 : w1 = 0 ∨ w1 = 1) (h2 : w2 = 0 ∨ w2 = 1) (i3 : F_X9_isWord om 3 = some w1) (i2 : F_X9_isWord om 2 = some w2) : F_X9_isPersonHere om = some (if w1 = 0 ∧ w2 = 0 then 0 else 1) := by
  simp only [F_X9_isPersonHere, i3, i2, z_bsN]
  rcases h1 with rfl | rfl <;> rcases h2 with rfl | rfl <;> rfl
theorem C_here {w1 w2 : Int32} (h1 : w1 = 0 ∨ w1 = 1) (h2 : w2 = 0 ∨ w2 = 1) (i3 : F_X6_isAtWord ot 3 = some w1) (i2 : F_X6_isAtWord ot 2 = some w2) : F_X8_isAtPerson ot = some (if w1 = 0 ∧ w2 = 0 then 0 else 1) := by
  simp only [F_X8_isAtPerson, i3, i2, z_bsN]
  rcases h1 with rfl | rfl <;> rcases h2 with rfl | rfl <;> rfl
theorem C_addT (od : ob) (x1 x2 x3 x4 x5 : Int32) : ∃ od2 : ob, F_X5_addPerson od x1 x2 x3 x4 x5 = some od2 := ⟨_, rfl⟩
theorem T_semi0 (h : T2 E ot om) (e : F_X6_takeSemicolon ot = some ot2) (q : ot2.1 7 = 0) : ot.1 7 = 0 := by
  rcases h with r | r
  · exact r.1
  · exfalso
    have : F_X6_takeSemicolon ot = some ot := by
      simp only [F_X6_takeSemicolon, r.failC, r.advC]
      split <;> rfl
    rw [this] at e
    rw [← Option.some.inj e] at q
    exact r.1 q
theorem L_person (h : TX E ot om) (hL : LD p 0 od (om.2 1)) (hp : p < 10) {w1 w2 : Int32} (hw1 : w1 = 0 ∨ w1 = 1) (hw2 : w2 = 0 ∨ w2 = 1) (i3 : F_X9_isWord om 3 = some w1) (i2 : F_X9_isWord om 2 = some w2) (hw : ¬ (w1 = 0 ∧ w2 = 0)) : ∃ ot2 od2 om2 : ob, F_X8_readPerson ot od = some (ot2, od2) ∧ F_X9_readsPerson om = some om2 ∧ ((TX E ot2 om2 ∧ LD (p + 1) 0 od2 (om2.2 1)) ∨ FX ot2 om2) ∧ tf ot ot2 ∧ lf om om2 := by
  have h8 : om.2 1 8 = nI p := hL.1.2.2.2.2.2.2.1
  -- king or beggar
  obtain ⟨u1, u2, hu1, hu2, ui1, ui2, uj1, uj2, uu⟩ := T_either h 3 2
  rw [i3] at ui1; rw [i2] at ui2
  have ui1 := Option.some.inj ui1; have ui2 := Option.some.inj ui2
  subst ui1; subst ui2
  rcases uu with ⟨r1, r2, _⟩ | ⟨-, a1, b1, e1, m1, t1, f1, k1⟩
  · exact absurd ⟨r1, r2⟩ hw
  -- the bank
  obtain ⟨v1, v2, hv1, hv2, vi1, vi2, vj1, vj2, vv⟩ := T_either t1 4 5
  have bank : ∃ (bk : Int32) (a2 b2 : ob), F_X6_takeEither a1 4 5 = some (bk, a2) ∧ T2 E a2 b2 ∧ tf a1 a2 ∧ mf b1 b2 ∧ (∃ bm : Int32, F_X9_bankHere b1 = some bm ∧ ((if bm = (-1 : Int32) then ((F_X9_errs b1 ((1 : Int32))).bind fun y39 => some y39) else (some b1)).bind fun zj12 => (if (zj12.1 15) = (0 : Int32) then ((F_X9_next zj12).bind fun y37 => some y37) else (some zj12))) = some b2 ∧ (a2.1 7 = 0 → bk = bm)) ∧ (bk = 0 ∨ bk = 1) := by
    rcases vv with ⟨r1, r2, a2, b2, e2, m2, t2, f2, k2⟩ | ⟨r, a2, b2, e2, m2, t2, f2, k2⟩
    · refine ⟨0, a2, b2, e2, Or.inr t2, f2, k2, ⟨-1, ?_, ?_, fun q => absurd q t2.1⟩, Or.inl rfl⟩
      · simp only [F_X9_bankHere, vi1, vi2, r1, r2, z_bsN]
        rfl
      · rw [if_pos rfl, m2]
        simp only [z_bsN]
        rw [if_neg t2.w]
    · have hx : ¬ (v1 = 1 ∧ v2 = 1) := fun q => z_banks (q.1 ▸ vj1) (q.2 ▸ vj2)
      refine ⟨v2, a2, b2, e2, Or.inl t2, f2, k2, ⟨v2, ?_, ?_, fun _ => rfl⟩, hv2⟩
      · simp only [F_X9_bankHere, vi1, vi2, z_bsN]
        rcases hv1 with rfl | rfl
        · rcases hv2 with rfl | rfl
          · exact absurd r (by decide)
          · rfl
        · rcases hv2 with rfl | rfl
          · rfl
          · exact absurd ⟨rfl, rfl⟩ hx
      · rw [if_neg (by rcases hv2 with rfl | rfl <;> decide)]
        simp only [z_bsN]
        rw [if_pos t1.2.1, m2]
        rfl
  obtain ⟨bk, a2, b2, e2, t2, f2, k2, ⟨bm, mb, m2, hbm⟩, hbk⟩ := bank
  obtain ⟨c3, d3, a3, b3, e3, m3, t3, g3, f3, k3⟩ := T_int t2 (lo := 0) (hi := 999) (lo2 := 0) (hi2 := 999) (fun _ => ⟨rfl, rfl, by decide⟩)
  obtain ⟨c4, d4, a4, b4, e4, m4, t4, g4, f4, k4⟩ := T_int t3 (lo := 0) (hi := 40) (lo2 := 0) (hi2 := 40) (fun _ => ⟨rfl, rfl, by decide⟩)
  obtain ⟨c5, d5, a5, b5, e5, m5, t5, g5, f5, k5⟩ := T_int t4 (lo := 0) (hi := 50) (lo2 := 0) (hi2 := 50) (fun _ => ⟨rfl, rfl, by decide⟩)
  obtain ⟨a6, b6, e6, m6, t6, f6, k6⟩ := T_semi t5
  have hf := f1.trans (f2.trans (f3.trans (f4.trans (f5.trans f6))))
  have hk := k1.trans (k2.trans (k3.trans (k4.trans (k5.trans k6))))
  have hrow : b6.2 1 = om.2 1 := by rw [hk.2]
  have htr : F_X9_truth w2 = some w2 := by rcases hw2 with rfl | rfl <;> rfl
  have hcl : ∀ od2 : ob, F_X5_addPerson od w2 bk c3 c4 c5 = some od2 → F_X8_readPerson ot od = some (a6, od2) := by
    intro od2 ho
    simp only [F_X8_readPerson, e1, e2, e3, e4, e5, e6, ho, z_bsN]
  have hmd : ∀ r : Option ob, (if (b6.1 15) = (0 : Int32) then ((rx_ald 144 (b6.2 1) ((8 : Int32))).bind fun v21 => (rx_ald 144 (b6.2 1) ((8 : Int32))).bind fun v22 => (rx_ast 144 (b6.2 1) ((8 : Int32)) ((v22 + (1 : Int32)))).bind fun f23 => rx_le (b6.1, va_up b6.2 1 f23) fun o_m_24 => (F_X9_lays o_m_24 v21 ((0 : Int32)) w2).bind fun y25 => (F_X9_lays y25 v21 ((1 : Int32)) bm).bind fun y26 => (F_X9_lays y26 v21 ((2 : Int32)) d3).bind fun y27 => (F_X9_lays y27 v21 ((3 : Int32)) d4).bind fun y28 => (F_X9_lays y28 v21 ((4 : Int32)) v21).bind fun y29 => (rx_ast 144 (y29.2 1) (((92 : Int32) + v21)) d5).bind fun f30 => rx_le (y29.1, va_up y29.2 1 f30) fun o_m_31 => (rx_ald 144 (o_m_31.2 1) ((10 : Int32))).bind fun v32 => (rx_ast 144 (o_m_31.2 1) ((10 : Int32)) ((v32 + d3))).bind fun f33 => rx_le (o_m_31.1, va_up o_m_31.2 1 f33) fun o_m_34 => (F_X9_laysRoyal o_m_34 v21 ((0 : Int32)) v21).bind fun y35 => some y35) else (some b6)) = r → F_X9_readsPerson om = r := by
    intro r hr
    have mm : ∀ X : ob → Option ob, (if bm = (-1 : Int32) then ((F_X9_errs b1 ((1 : Int32))).bind fun y39 => some y39) else (some b1)).bind (fun zj12 => (if (zj12.1 15) = (0 : Int32) then ((F_X9_next zj12).bind fun y37 => some y37) else (some zj12)).bind X) = X b2 := by
      intro X
      rw [← Option.bind_assoc, m2]
      rfl
    simp only [F_X9_readsPerson, M_here hw1 hw2 i3 i2, if_neg hw, z_bsN, z_al8, h8]
    rw [if_neg (by decide)]
    simp only [z_bsN, z_al8, h8]
    rw [if_neg (show ¬ nI p = (10 : Int32) from fun e => by have := (nI_eq (a := p) (b := 10) (by omega) (by omega)).mp e; omega)]
    simp only [z_bsN]
    rw [if_pos h.2.1, i2]
    simp only [z_bsN, htr, m1, mb, mm, m3, m4, m5, m6]
    exact hr
  rcases t6 with t6 | t6
  · have q5 := g5 (T_semi0 t5 e6 t6.1)
    have q4 := g4 q5.1
    have q3 := g3 q4.1
    have qb := hbm q3.1
    obtain ⟨rfl, rfl, rfl, rfl⟩ : bk = bm ∧ c3 = d3 ∧ c4 = d4 ∧ c5 = d5 := ⟨qb, q3.2.1, q4.2.1, q5.2.1⟩
    obtain ⟨od2, o1, o2⟩ := hL.person rfl hp (g2 := upd (upd (upd (upd (upd (upd (upd (upd (upd (om.2 1) 8 (nI (p + 1))) (12 + 8 * p) w2) (12 + 8 * p + 1) bk) (12 + 8 * p + 2) c3) (12 + 8 * p + 3) c4) (12 + 8 * p + 4) (nI p)) (92 + p) c5) 10 (om.2 1 10 + c3)) (102 + 3 * p) (nI p)) (x1 := w2) (x2 := bk) (x3 := c3) (x4 := c4) (x5 := c5) hw2 hbk (by simp (disch := omega) only [z_us, z_un]) (by simp (disch := omega) only [z_us, z_un]) (by simp (disch := omega) only [z_us, z_un]) (by simp (disch := omega) only [z_us, z_un]) (by simp (disch := omega) only [z_us, z_un]) (by simp (disch := omega) only [z_us, z_un]) (by simp (disch := omega) only [z_us, z_un]) (by simp (disch := omega) only [z_us, z_un]) (by simp (disch := omega) only [z_us, z_un]) (fun i h1 h2 h3 h4 h5 => by simp (disch := omega) only [z_un])
    refine ⟨a6, od2, (b6.1, va_up b6.2 1 _), hcl od2 o1, hmd _ ?_, Or.inl ⟨t6.row, by dsimp only; rw [z_vs]; exact o2⟩, hf, ⟨hk.1, fun r hr => by dsimp only; rw [z_vn hr, hk.2]⟩⟩
    rw [if_pos t6.2.1, hrow]
    simp only [z_al8, z_as8, h8, z_bsN, z_leN, nI_1]
    simp (disch := omega) only [M_lays0 hp, M_lays1 hp, M_lays2 hp, M_lays3 hp, M_lays4 hp, z_bsN, z_leN, z_vs, z_vv, show (92 : Int32) + nI p = nI (92 + p) from nI_add 92 p, z_ast, z_al10, z_as10, M_laysR0 hp, z_un]
  · obtain ⟨od2, ho⟩ := C_addT od w2 bk c3 c4 c5
    exact ⟨a6, od2, b6, hcl od2 ho, hmd _ (by rw [if_neg t6.w]), Or.inr t6, hf, hk.lf⟩
end PERSON
