/-! A game read from a text: its head, its people. -/
def LD (p b : Nat) (od : ob) (g : Nat → Int32) : Prop :=
  (od.1 0 = g 1 ∧ od.1 1 = g 2 ∧ od.1 2 = g 3 ∧ od.1 3 = g 4 ∧ od.1 4 = nI p ∧ od.1 5 = nI b ∧ g 8 = nI p ∧ g 9 = nI b ∧ p ≤ 10 ∧ b ≤ 4) ∧ (gL g ∧ g 0 = 0 ∧ g 5 = 0 ∧ g 6 = 0 ∧ g 7 = 0 ∧ g 11 = 0 ∧ g 10 = z_sum (od.2 8) p) ∧
  (∀ q : Nat, q < p → od.2 6 q = g (12 + 8 * q) ∧ (g (12 + 8 * q) = 0 ∨ g (12 + 8 * q) = 1) ∧ od.2 7 q = g (12 + 8 * q + 1) ∧ (g (12 + 8 * q + 1) = 0 ∨ g (12 + 8 * q + 1) = 1) ∧ od.2 8 q = g (12 + 8 * q + 2) ∧ od.2 9 q = g (12 + 8 * q + 3) ∧ g (12 + 8 * q + 4) = nI q ∧ od.2 10 q = g (92 + q) ∧ g (102 + 3 * q) = nI q) ∧
  (∀ q : Nat, q < 10 → g (12 + 8 * q + 5) = 0 ∧ g (12 + 8 * q + 6) = 0 ∧ g (12 + 8 * q + 7) = 0 ∧ g (102 + 3 * q + 1) = 0 ∧ g (102 + 3 * q + 2) = 0) ∧
  ∀ c : Nat, c < b → od.2 11 c = g (132 + 3 * c) ∧ od.2 12 c = g (132 + 3 * c + 1) ∧ od.2 13 c = g (132 + 3 * c + 2) ∧ ∃ w : Nat, 1 ≤ w ∧ w ≤ 9 ∧ g (132 + 3 * c) = nI w
/-- what reading changes of the model -/
def lf (om om2 : ob) : Prop := (∀ i : Nat, i < 11 ∨ 16 < i → om2.1 i = om.1 i) ∧ ∀ r : Nat, r ≠ 1 → om2.2 r = om.2 r
section LOAD
variable {ot om od ot2 om2 od2 ot3 om3 : ob} {E n s p b : Nat} {g g2 : Nat → Int32}
theorem lf.refl : lf om om := ⟨fun _ _ => rfl, fun _ _ => rfl⟩
theorem lf.trans (h : lf om om2) (h2 : lf om2 om3) : lf om om3 := ⟨fun i hi => (h2.1 i hi).trans (h.1 i hi), fun i hi => (h2.2 i hi).trans (h.2 i hi)⟩
theorem mf.lf (h : mf om om2) : lf om om2 := ⟨h.1, fun r _ => by rw [h.2]⟩
theorem TX.row {f : Nat → Int32} (h : TX E ot om) : TX E ot (om.1, va_up om.2 1 f) := by
  obtain ⟨h7, h15, h8, ⟨h2, h10, hE, hb⟩, s, n, h1, h3, h4, h12, h5, h11, hD⟩ := h
  refine ⟨h7, h15, h8, ⟨h2, h10, hE, fun i hi => ?_⟩, s, n, h1, h3, h4, h12, h5, h11, ?_⟩
  · dsimp only; rw [z_vn (by omega)]; exact hb i hi
  · unfold TD
    dsimp only
    rw [z_vn (by omega)]
    exact hD
theorem M_54 {v8 v9 v10 v11 : Int32} : F_X9_readsText_54 v8 v9 v10 v11 100000 om 0 = some (nI 144, (om.1, va_up om.2 1 (fun i => if i < 144 then 0 else om.2 1 i))) := by
  have h0 : (om.1, va_up om.2 1 (fun i => if i < 0 then 0 else om.2 1 i)) = om := by
    have : (fun i => if i < 0 then (0 : Int32) else om.2 1 i) = om.2 1 := by
      funext i; rw [if_neg (by omega)]
    rw [this, z_vid]
  have h := z_for 144 (fun fu k (s : ob) => F_X9_readsText_54 v8 v9 v10 v11 fu s (nI k)) (fun k => (om.1, va_up om.2 1 (fun i => if i < k then 0 else om.2 1 i))) (r := some (nI 144, (om.1, va_up om.2 1 (fun i => if i < 144 then 0 else om.2 1 i)))) (by
    intro fu k hk
    show F_X9_readsText_54 v8 v9 v10 v11 (fu + 1) (om.1, va_up om.2 1 (fun i => if i < k then 0 else om.2 1 i)) (nI k) = F_X9_readsText_54 v8 v9 v10 v11 fu (om.1, va_up om.2 1 (fun i => if i < k + 1 then 0 else om.2 1 i)) (nI (k + 1))
    have : upd (fun i => if i < k then 0 else om.2 1 i) k 0 = fun i => if i < k + 1 then 0 else om.2 1 i := by
      funext i
      by_cases q : i = k
      · subst q; rw [z_us, if_pos (by omega)]
      · rw [z_un q]
        by_cases r : i < k
        · rw [if_pos r, if_pos (by omega)]
        · rw [if_neg r, if_neg (by omega)]
    simp only [F_X9_readsText_54, z_leN, z_vs, z_vv, nI_1]
    rw [if_neg (show ¬ (144 : Int32) ≤ nI k from nI_ge (a := k) (b := 144) (by omega) (by omega)), z_ast (by omega) (by omega), z_bsN, this]) (by
    intro fu
    show F_X9_readsText_54 v8 v9 v10 v11 (fu + 1) (om.1, va_up om.2 1 (fun i => if i < 144 then 0 else om.2 1 i)) (nI 144) = _
    simp only [F_X9_readsText_54]
    rw [if_pos (by decide)]) 100000 (by omega) 0 (Nat.zero_le _)
  rw [h0] at h
  exact h
/-- the head -/
theorem L_head (h : T2 E ot om) : ∃ (ot2 od2 om2 : ob) (v8 v9 v10 v11 : Int32), F_X8_readHeader ot od = some (ot2, od2) ∧ T2 E ot2 om2 ∧ tf ot ot2 ∧ mf om om2 ∧
    (F_X9_readsText om = if (om2.1 15) = (0 : Int32) then (F_X9_readsText_54 v8 v9 v10 v11 100000 om2 ((0 : Int32))).bind fun zl17 => (rx_ast 144 (zl17.2.2 1) ((1 : Int32)) v8).bind fun f18 => rx_le (zl17.2.1, va_up zl17.2.2 1 f18) fun o_m_19 => (rx_ast 144 (o_m_19.2 1) ((2 : Int32)) v9).bind fun f20 => rx_le (o_m_19.1, va_up o_m_19.2 1 f20) fun o_m_21 => (rx_ast 144 (o_m_21.2 1) ((3 : Int32)) v10).bind fun f22 => rx_le (o_m_21.1, va_up o_m_21.2 1 f22) fun o_m_23 => (rx_ast 144 (o_m_23.2 1) ((4 : Int32)) v11).bind fun f24 => rx_le (o_m_23.1, va_up o_m_23.2 1 f24) fun o_m_25 => rx_le zl17.1 fun v26 => (F_X9_readsText_105 v8 v9 v10 v11 v26 100000 o_m_25).bind fun zl36 => (F_X9_readsText_137 v8 v9 v10 v11 v26 100000 zl36).bind fun zl45 => some zl45 else some om2) ∧
    (ot2.1 7 = 0 → (0 ≤ v8 ∧ v8 ≤ 90) ∧ (0 ≤ v9 ∧ v9 ≤ 9) ∧ od2.1 0 = v8 ∧ od2.1 1 = v9 ∧ od2.1 2 = v10 ∧ od2.1 3 = v11 ∧ od2.1 4 = 0 ∧ od2.1 5 = 0) := by
  obtain ⟨a1, b1, e1, m1, t1, f1, k1⟩ := T_word2 h 1
  obtain ⟨v2, w2, a2, b2, e2, m2, t2, c2, f2, k2⟩ := T_int t1 (lo := 0) (hi := 90) (lo2 := 0) (hi2 := 90) (fun _ => ⟨rfl, rfl, by decide⟩)
  obtain ⟨v3, w3, a3, b3, e3, m3, t3, c3, f3, k3⟩ := T_int t2 (lo := 0) (hi := 9) (lo2 := 0) (hi2 := 9) (fun _ => ⟨rfl, rfl, by decide⟩)
  obtain ⟨v4, w4, a4, b4, e4, m4, t4, c4, f4, k4⟩ := T_int t3 (lo := 0) (hi := 99) (lo2 := 0) (hi2 := 99) (fun _ => ⟨rfl, rfl, by decide⟩)
  obtain ⟨v5, w5, a5, b5, e5, m5, t5, c5, f5, k5⟩ := T_int t4 (lo := 0) (hi := 99) (lo2 := 0) (hi2 := 99) (fun _ => ⟨rfl, rfl, by decide⟩)
  obtain ⟨a6, b6, e6, m6, t6, f6, k6⟩ := T_semi t5
  have c6 : a6.1 7 = 0 → a5.1 7 = 0 := by
    intro q
    rcases t5 with r | r
    · exact r.1
    · exfalso
      have : F_X6_takeSemicolon a5 = some a5 := by
        simp only [F_X6_takeSemicolon, r.failC, r.advC]
        split <;> rfl
      rw [this] at e6
      rw [← Option.some.inj e6] at q
      exact r.1 q
  refine ⟨a6, (upd (upd (upd (upd (upd (upd od.1 0 v2) 1 v3) 2 v4) 3 v5) 4 0) 5 0, od.2), b6, w2, w3, w4, w5, ?_, t6, f1.trans (f2.trans (f3.trans (f4.trans (f5.trans f6)))), k1.trans (k2.trans (k3.trans (k4.trans (k5.trans k6)))), ?_, fun q => ?_⟩
  · simp only [F_X8_readHeader, e1, e2, e3, e4, e5, e6, z_bsN, F_X5_begin, z_leN]
  · simp only [F_X9_readsText, m1, m2, m3, m4, m5, m6, z_bsN, z_leN]
  · have q5 := c5 (c6 q)
    have q4 := c4 q5.1
    have q3 := c3 q4.1
    have q2 := c2 q3.1
    refine ⟨by rw [← q2.2.1]; exact q2.2.2, by rw [← q3.2.1]; exact q3.2.2, ?_, ?_, ?_, ?_, ?_, ?_⟩
    · dsimp only; rw [z_un (by omega), z_un (by omega), z_un (by omega), z_un (by omega), z_un (by omega), z_us, q2.2.1]
    · dsimp only; rw [z_un (by omega), z_un (by omega), z_un (by omega), z_un (by omega), z_us, q3.2.1]
    · dsimp only; rw [z_un (by omega), z_un (by omega), z_un (by omega), z_us, q4.2.1]
    · dsimp only; rw [z_un (by omega), z_un (by omega), z_us, q5.2.1]
    · dsimp only; rw [z_un (by omega), z_us]
    · dsimp only; rw [z_us]
/-- one more person, in the rows -/
theorem LD.person (h : LD p b od g) (hb : b = 0) (hp : p < 10) {x1 x2 x3 x4 x5 : Int32} (k1 : x1 = 0 ∨ x1 = 1) (k2 : x2 = 0 ∨ x2 = 1) (e0 : g2 (12 + 8 * p) = x1) (e1 : g2 (12 + 8 * p + 1) = x2) (e2 : g2 (12 + 8 * p + 2) = x3) (e3 : g2 (12 + 8 * p + 3) = x4) (e4 : g2 (12 + 8 * p + 4) = nI p) (e5 : g2 (92 + p) = x5) (e6 : g2 (102 + 3 * p) = nI p) (e8 : g2 8 = nI (p + 1)) (e10 : g2 10 = g 10 + x3) (k : ∀ i : Nat, i ≠ 8 → i ≠ 10 → (i < 12 + 8 * p ∨ 12 + 8 * p + 4 < i) → i ≠ 92 + p → i ≠ 102 + 3 * p → g2 i = g i) :
    ∃ od2 : ob, F_X5_addPerson od x1 x2 x3 x4 x5 = some od2 ∧ LD (p + 1) b od2 g2 := by
  subst hb
  obtain ⟨⟨a0, a1, a2, a3, a4, a5, a8, a9, ap, ab⟩, ⟨hl, z0, z5, z6, z7, z11, z10⟩, hpp, hz, hbb⟩ := h
  have kk : ∀ i : Nat, i < 8 ∨ i = 9 ∨ i = 11 → g2 i = g i := fun i hi => k i (by omega) (by omega) (by omega) (by omega) (by omega)
  refine ⟨(upd od.1 4 (nI (p + 1)), va_up (va_up (va_up (va_up (va_up od.2 6 (upd (od.2 6) p x1)) 7 (upd (od.2 7) p x2)) 8 (upd (od.2 8) p x3)) 9 (upd (od.2 9) p x4)) 10 (upd (od.2 10) p x5)), ?_, ⟨?_, ?_, ?_, ?_, fun c hc => by omega⟩⟩
  · simp only [F_X5_addPerson, z_leN, a4]
    simp (disch := omega) only [z_put, z_vn, nI_1]
  · refine ⟨?_, ?_, ?_, ?_, ?_, ?_, e8, ?_, by omega, ab⟩
    · dsimp only; rw [z_un (by omega), kk 1 (by omega)]; exact a0
    · dsimp only; rw [z_un (by omega), kk 2 (by omega)]; exact a1
    · dsimp only; rw [z_un (by omega), kk 3 (by omega)]; exact a2
    · dsimp only; rw [z_un (by omega), kk 4 (by omega)]; exact a3
    · dsimp only; rw [z_us]
    · dsimp only; rw [z_un (by omega)]; exact a5
    · rw [kk 9 (by omega)]; exact a9
  · refine ⟨hl.c (kk 1 (by omega)) (kk 2 (by omega)), (kk 0 (by omega)).trans z0, (kk 5 (by omega)).trans z5, (kk 6 (by omega)).trans z6, (kk 7 (by omega)).trans z7, (kk 11 (by omega)).trans z11, ?_⟩
    dsimp only
    rw [e10, z10, z_vn (by omega), z_vn (by omega), z_vs, z_sum, z_us]
    congr 1
    exact z_sum_congr (fun c hc => by rw [z_un (by omega)])
  · intro q hq
    by_cases r : q = p
    · subst r
      rw [e0, e1, e2, e3, e4, e5, e6]
      simp (disch := omega) only [z_vn, z_vs, z_us]
      exact ⟨trivial, k1, trivial, k2, trivial, trivial, trivial, trivial, trivial⟩
    · have := hpp q (by omega)
      rw [k (12 + 8 * q) (by omega) (by omega) (by omega) (by omega) (by omega), k (12 + 8 * q + 1) (by omega) (by omega) (by omega) (by omega) (by omega), k (12 + 8 * q + 2) (by omega) (by omega) (by omega) (by omega) (by omega), k (12 + 8 * q + 3) (by omega) (by omega) (by omega) (by omega) (by omega), k (12 + 8 * q + 4) (by omega) (by omega) (by omega) (by omega) (by omega), k (92 + q) (by omega) (by omega) (by omega) (by omega) (by omega), k (102 + 3 * q) (by omega) (by omega) (by omega) (by omega) (by omega)]
      simp (disch := omega) only [z_vn, z_vs, z_un]
      exact this
  · intro q hq
    have := hz q hq
    rw [k (12 + 8 * q + 5) (by omega) (by omega) (by omega) (by omega) (by omega), k (12 + 8 * q + 6) (by omega) (by omega) (by omega) (by omega) (by omega), k (12 + 8 * q + 7) (by omega) (by omega) (by omega) (by omega) (by omega), k (102 + 3 * q + 1) (by omega) (by omega) (by omega) (by omega) (by omega), k (102 + 3 * q + 2) (by omega) (by omega) (by omega) (by omega) (by omega)]
    exact this
end LOAD
