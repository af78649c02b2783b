/-! All people of a text; its bridges. -/
section BRIDGE
variable {ot om od ot2 om2 od2 ot3 om3 : ob} {E n s p b : Nat} {g g2 : Nat → Int32} {v8 v9 v10 v11 v26 : Int32}
theorem F_pC {fc : Nat} {x : Int32} (h : FX ot om) : F_X8_readPeople_2 (fc + 1) ot od x = some (x, ot, od) := by
  simp only [F_X8_readPeople_2, F_X8_isAtPerson, (h.is 2).1, (h.is 3).1, z_bsN]
  split
  · rfl
  · simp only [if_true, z_bsN]
theorem F_pM {fm : Nat} (h : FX ot om) : F_X9_readsText_105 v8 v9 v10 v11 v26 (fm + 1) om = some om := by
  simp only [F_X9_readsText_105]
  rw [if_neg h.w]
theorem F_ck {c : Prop} [Decidable c] (h : FX ot om) : (if c then some (ot, od) else (F_X6_fail ot 1).bind fun y11 => some (y11, od)) = some (ot, od) := by
  rw [h.failC]
  split <;> rfl
theorem M_pe1 (h : TX E ot om) (hL : LD p 0 od (om.2 1)) (hf : F_X9_isPersonHere om = some 0) (he : F_X9_errs om 1 = some om2) (hF : FX ot2 om2) (hk : mf om om2) : F_X9_readsPerson om = some om2 := by
  have h8 : om2.2 1 8 = nI p := by rw [hk.2]; exact hL.1.2.2.2.2.2.2.1
  simp only [F_X9_readsPerson, hf, z_bsN]
  rw [if_pos trivial, he]
  simp only [z_bsN, z_al8, h8, hF.failM]
  split
  · simp only [z_bsN]
    rw [if_neg hF.w]
  · simp only [z_bsN]
    rw [if_neg hF.w]
theorem M_pe3 (h : TX E ot om) (hL : LD 10 0 od (om.2 1)) (hf : F_X9_isPersonHere om = some 1) (he : F_X9_errs om 3 = some om2) (hF : FX ot2 om2) : F_X9_readsPerson om = some om2 := by
  have h8 : om.2 1 8 = nI 10 := hL.1.2.2.2.2.2.2.1
  simp only [F_X9_readsPerson, hf, z_bsN]
  rw [if_neg (by decide)]
  simp only [z_bsN, z_al8, h8]
  rw [if_pos (by decide), he]
  simp only [z_bsN]
  rw [if_neg hF.w]
theorem L_people : ∀ (d p fc fm : Nat) (ot om od : ob), p + d = 10 → d + 1 < fc → d + 2 < fm → TX E ot om → LD p 0 od (om.2 1) → ∃ (x : Int32) (ot2 od2 ot3 om2 : ob), F_X8_readPeople_2 fc ot od (nI p) = some (x, ot2, od2) ∧ (if (3 : Int32) ≤ od2.1 4 then some (ot2, od2) else (F_X6_fail ot2 1).bind fun y11 => some (y11, od2)) = some (ot3, od2) ∧ F_X9_readsText_105 v8 v9 v10 v11 v26 fm om = some om2 ∧ ((TX E ot3 om2 ∧ ∃ P : Nat, 3 ≤ P ∧ P ≤ 10 ∧ LD P 0 od2 (om2.2 1)) ∨ FX ot3 om2) ∧ tf ot ot3 ∧ lf om om2 := by
  intro d
  induction d with
  | zero =>
    intro p fc fm ot om od hp hc hm h hL
    obtain ⟨fc, rfl⟩ : ∃ q, fc = q + 2 := ⟨fc - 2, by omega⟩
    obtain ⟨fm, rfl⟩ : ∃ q, fm = q + 2 := ⟨fm - 2, by omega⟩
    obtain rfl : p = 10 := by omega
    obtain ⟨w1, hw1, i1, i2⟩ := T_is (Or.inl h) 3
    obtain ⟨w2, hw2, j1, j2⟩ := T_is (Or.inl h) 2
    have hC := C_here hw1 hw2 i1 j1
    have hM := M_here hw1 hw2 i2 j2
    have h8 : om.2 1 8 = nI 10 := hL.1.2.2.2.2.2.2.1
    by_cases q : w1 = 0 ∧ w2 = 0
    · rw [if_pos q] at hC hM
      refine ⟨nI 10, ot, od, ot, om, ?_, ?_, ?_, Or.inl ⟨h, 10, by omega, by omega, hL⟩, tf.refl, lf.refl⟩
      · rw [F_X8_readPeople_2]
        simp only [hC, z_bsN]
        rw [if_neg (by decide), if_pos trivial]
      · rw [hL.1.2.2.2.2.1, if_pos (by decide)]
      · rw [F_X9_readsText_105]
        simp only [h.2.1, z_al8, z_bsN, h8, hM]
        rw [if_pos trivial, if_neg (by decide), if_pos trivial]
    · rw [if_neg q] at hC hM
      obtain ⟨ot2, om2, f1, f2, f3, f4, f5⟩ := h.fail (c := 3) (by decide)
      refine ⟨nI 10 + 1, ot2, od, ot2, om2, ?_, F_ck f3, ?_, Or.inr f3, f4, f5.lf⟩
      · rw [F_X8_readPeople_2]
        simp only [hC, z_bsN]
        rw [if_neg (by decide), if_neg (by decide), if_pos (by decide), f1]
        simp only [z_bsN]
        exact F_pC f3
      · rw [F_X9_readsText_105]
        simp only [h.2.1, z_al8, z_bsN, h8, hM]
        rw [if_pos trivial, if_neg (by decide), if_neg (by decide), M_pe3 h hL hM f2 f3]
        simp only [z_bsN]
        exact F_pM f3
  | succ d ih =>
    intro p fc fm ot om od hp hc hm h hL
    obtain ⟨fc, rfl⟩ : ∃ q, fc = q + 2 := ⟨fc - 2, by omega⟩
    obtain ⟨fm, rfl⟩ : ∃ q, fm = q + 2 := ⟨fm - 2, by omega⟩
    obtain ⟨w1, hw1, i1, i2⟩ := T_is (Or.inl h) 3
    obtain ⟨w2, hw2, j1, j2⟩ := T_is (Or.inl h) 2
    have hC := C_here hw1 hw2 i1 j1
    have hM := M_here hw1 hw2 i2 j2
    have h8 : om.2 1 8 = nI p := hL.1.2.2.2.2.2.2.1
    have hp10 : ¬ (10 : Int32) < nI p := Int32.not_lt.mpr (nI_le (a := p) (b := 10) (by omega) (by omega))
    by_cases q : w1 = 0 ∧ w2 = 0
    · rw [if_pos q] at hC hM
      by_cases r : p < 3
      · obtain ⟨ot2, om2, f1, f2, f3, f4, f5⟩ := h.fail (c := 1) (by decide)
        refine ⟨nI p, ot, od, ot2, om2, ?_, ?_, ?_, Or.inr f3, f4, f5.lf⟩
        · rw [F_X8_readPeople_2]
          simp only [hC, z_bsN]
          rw [if_neg hp10, if_pos trivial]
        · rw [hL.1.2.2.2.2.1, if_neg (show ¬ (3 : Int32) ≤ nI p from nI_ge (a := p) (b := 3) r (by omega)), f1]
          rfl
        · rw [F_X9_readsText_105]
          simp only [h.2.1, z_al8, z_bsN, h8]
          rw [if_pos trivial, if_pos (show nI p < (3 : Int32) from nI_lt (a := p) (b := 3) r (by omega)), M_pe1 h hL hM f2 f3 f5]
          simp only [z_bsN]
          exact F_pM f3
      · refine ⟨nI p, ot, od, ot, om, ?_, ?_, ?_, Or.inl ⟨h, p, by omega, by omega, hL⟩, tf.refl, lf.refl⟩
        · rw [F_X8_readPeople_2]
          simp only [hC, z_bsN]
          rw [if_neg hp10, if_pos trivial]
        · rw [hL.1.2.2.2.2.1, if_pos (show (3 : Int32) ≤ nI p from nI_le (a := 3) (b := p) (by omega) (by omega))]
        · rw [F_X9_readsText_105]
          simp only [h.2.1, z_al8, z_bsN, h8, hM]
          rw [if_pos trivial, if_neg (show ¬ nI p < (3 : Int32) from Int32.not_lt.mpr (nI_le (a := 3) (b := p) (by omega) (by omega))), if_pos trivial]
    · rw [if_neg q] at hC hM
      obtain ⟨a1, o1, b1, r1, r2, r3, r4, r5⟩ := L_person h hL (by omega) hw1 hw2 i2 j2 q
      have hcl : F_X8_readPeople_2 (fc + 1 + 1) ot od (nI p) = F_X8_readPeople_2 (fc + 1) a1 o1 (nI (p + 1)) := by
        rw [F_X8_readPeople_2]
        simp only [hC, z_bsN]
        rw [if_neg hp10, if_neg (by decide), if_neg (show ¬ nI p = (10 : Int32) from fun e => by have := (nI_eq (a := p) (b := 10) (by omega) (by omega)).mp e; omega), r1, nI_1]
        simp only [z_bsN]
      have hml : F_X9_readsText_105 v8 v9 v10 v11 v26 (fm + 1 + 1) om = F_X9_readsText_105 v8 v9 v10 v11 v26 (fm + 1) b1 := by
        rw [F_X9_readsText_105]
        simp only [h.2.1, z_al8, z_bsN, h8, hM, r2]
        rw [if_pos trivial]
        split
        · rfl
        · rw [if_neg (by decide)]
      rw [hcl, hml]
      rcases r3 with ⟨t1, L1⟩ | t1
      · obtain ⟨x, ot2, od2, ot3, om2, s1, s2, s3, s4, s5, s6⟩ := ih (p + 1) (fc + 1) (fm + 1) a1 b1 o1 (by omega) (by omega) (by omega) t1 L1
        exact ⟨x, ot2, od2, ot3, om2, s1, s2, s3, s4, r4.trans s5, r5.trans s6⟩
      · exact ⟨_, a1, o1, a1, b1, F_pC t1, F_ck t1, F_pM t1, Or.inr t1, r4, r5⟩
/-- one more bridge -/
theorem LD.bridge (h : LD p b od g) (hb : b < 4) {x1 x2 x3 : Int32} (k1 : ∃ w : Nat, 1 ≤ w ∧ w ≤ 9 ∧ x1 = nI w) (e0 : g2 (132 + 3 * b) = x1) (e1 : g2 (132 + 3 * b + 1) = x2) (e2 : g2 (132 + 3 * b + 2) = x3) (e9 : g2 9 = nI (b + 1)) (k : ∀ i : Nat, i ≠ 9 → (i < 132 + 3 * b ∨ 132 + 3 * b + 2 < i) → g2 i = g i) : ∃ od2 : ob, F_X5_addBridge od x1 x2 x3 = some od2 ∧ LD p (b + 1) od2 g2 := by
  obtain ⟨⟨a0, a1, a2, a3, a4, a5, a8, a9, ap, ab⟩, ⟨hl, z0, z5, z6, z7, z11, z10⟩, hpp, hz, hbb⟩ := h
  have kk : ∀ i : Nat, i < 132 → i ≠ 9 → g2 i = g i := fun i hi h9 => k i h9 (by omega)
  refine ⟨(upd od.1 5 (nI (b + 1)), va_up (va_up (va_up od.2 11 (upd (od.2 11) b x1)) 12 (upd (od.2 12) b x2)) 13 (upd (od.2 13) b x3)), ?_, ⟨?_, ?_, ?_, ?_, fun c hc => ?_⟩⟩
  · simp only [F_X5_addBridge, z_leN, a5]
    simp (disch := omega) only [z_put, z_vn, nI_1]
  · refine ⟨?_, ?_, ?_, ?_, ?_, ?_, ?_, e9, ap, by omega⟩
    · dsimp only; rw [z_un (by omega), kk 1 (by omega) (by omega)]; exact a0
    · dsimp only; rw [z_un (by omega), kk 2 (by omega) (by omega)]; exact a1
    · dsimp only; rw [z_un (by omega), kk 3 (by omega) (by omega)]; exact a2
    · dsimp only; rw [z_un (by omega), kk 4 (by omega) (by omega)]; exact a3
    · dsimp only; rw [z_un (by omega)]; exact a4
    · dsimp only; rw [z_us]
    · rw [kk 8 (by omega) (by omega)]; exact a8
  · refine ⟨hl.c (kk 1 (by omega) (by omega)) (kk 2 (by omega) (by omega)), (kk 0 (by omega) (by omega)).trans z0, (kk 5 (by omega) (by omega)).trans z5, (kk 6 (by omega) (by omega)).trans z6, (kk 7 (by omega) (by omega)).trans z7, (kk 11 (by omega) (by omega)).trans z11, ?_⟩
    dsimp only
    rw [kk 10 (by omega) (by omega), z10, z_vn (by omega), z_vn (by omega), z_vn (by omega)]
  · intro q hq
    have := hpp q hq
    rw [kk (12 + 8 * q) (by omega) (by omega), kk (12 + 8 * q + 1) (by omega) (by omega), kk (12 + 8 * q + 2) (by omega) (by omega), kk (12 + 8 * q + 3) (by omega) (by omega), kk (12 + 8 * q + 4) (by omega) (by omega), kk (92 + q) (by omega) (by omega), kk (102 + 3 * q) (by omega) (by omega)]
    simp (disch := omega) only [z_vn]
    exact this
  · intro q hq
    have := hz q hq
    rw [kk (12 + 8 * q + 5) (by omega) (by omega), kk (12 + 8 * q + 6) (by omega) (by omega), kk (12 + 8 * q + 7) (by omega) (by omega), kk (102 + 3 * q + 1) (by omega) (by omega), kk (102 + 3 * q + 2) (by omega) (by omega)]
    exact this
  · by_cases r : c = b
    · subst r
      rw [e0, e1, e2]
      simp (disch := omega) only [z_vn, z_vs, z_us]
      exact ⟨trivial, trivial, trivial, k1⟩
    · rw [k (132 + 3 * c) (by omega) (by omega), k (132 + 3 * c + 1) (by omega) (by omega), k (132 + 3 * c + 2) (by omega) (by omega)]
      simp (disch := omega) only [z_vn, z_vs, z_un]
      exact hbb c (by omega)
theorem C_addB (od : ob) (x1 x2 x3 : Int32) : ∃ od2 : ob, F_X5_addBridge od x1 x2 x3 = some od2 := ⟨_, rfl⟩
theorem L_bridge (h : TX E ot om) (hL : LD p b od (om.2 1)) (hb : b < 4) (j1 : F_X6_isAtWord ot 6 = some 1) (j2 : F_X9_isWord om 6 = some 1) : ∃ ot2 od2 om2 : ob, F_X8_readBridge ot od = some (ot2, od2) ∧ F_X9_readsBridge om = some om2 ∧ ((TX E ot2 om2 ∧ LD p (b + 1) od2 (om2.2 1)) ∨ FX ot2 om2) ∧ tf ot ot2 ∧ lf om om2 := by
  have h9 : om.2 1 9 = nI b := hL.1.2.2.2.2.2.2.2.1
  obtain ⟨a1, b1, e1, m1, t1, f1, k1⟩ := h.next
  have e1' : F_X6_takeWord ot 6 = some a1 := by
    simp only [F_X6_takeWord, j1, z_bsN]
    rw [if_neg (by decide), e1]
    rfl
  obtain ⟨c3, d3, a3, b3, e3, m3, t3, g3, f3, k3⟩ := T_int (Or.inl t1) (lo := 1) (hi := 9) (lo2 := 1) (hi2 := 9) (fun _ => ⟨rfl, rfl, by decide⟩)
  obtain ⟨c4, d4, a4, b4, e4, m4, t4, g4, f4, k4⟩ := T_int t3 (lo := 0) (hi := c3 - 1) (lo2 := 0) (hi2 := d3 - 1) (fun q => by
    have := g3 q
    refine ⟨rfl, by rw [this.2.1], ?_⟩
    have h1 := this.2.2.1
    have h2 := this.2.2.2
    grind)
  obtain ⟨c5, d5, a5, b5, e5, m5, t5, g5, f5, k5⟩ := T_int t4 (lo := 1) (hi := 3) (lo2 := 1) (hi2 := 3) (fun _ => ⟨rfl, rfl, by decide⟩)
  obtain ⟨a6, b6, e6, m6, t6, f6, k6⟩ := T_semi t5
  have hf := f1.trans (f3.trans (f4.trans (f5.trans f6)))
  have hk := k1.trans (k3.trans (k4.trans (k5.trans k6)))
  have hrow : b6.2 1 = om.2 1 := by rw [hk.2]
  have hcl : ∀ od2 : ob, F_X5_addBridge od c3 c4 c5 = some od2 → F_X8_readBridge ot od = some (a6, od2) := by
    intro od2 ho
    simp only [F_X8_readBridge, e1', e3, e4, e5, e6, ho, z_bsN]
  have hne : ¬ nI b = (4 : Int32) := fun e => by have := (nI_eq (a := b) (b := 4) (by omega) (by omega)).mp e; omega
  rcases t6 with t6 | t6
  · have q5 := g5 (T_semi0 t5 e6 t6.1)
    have q4 := g4 q5.1
    have q3 := g3 q4.1
    obtain ⟨rfl, rfl, rfl⟩ : c3 = d3 ∧ c4 = d4 ∧ c5 = d5 := ⟨q3.2.1, q4.2.1, q5.2.1⟩
    have hw : ∃ w : Nat, 1 ≤ w ∧ w ≤ 9 ∧ c3 = nI w := by
      obtain ⟨w, hw, ew⟩ := nI_of2 (n := 9) (x := c3) rfl (by have := q3.2.2.1; grind) q3.2.2.2
      refine ⟨w, ?_, hw, ew⟩
      have := q3.2.2.1
      rw [ew, show (1 : Int32) = nI 1 from rfl, nI_leI (by omega) (by omega)] at this
      exact this
    obtain ⟨od2, o1, o2⟩ := hL.bridge hb (x1 := c3) (x2 := c4) (x3 := c5) (g2 := upd (upd (upd (upd (om.2 1) 9 (nI (b + 1))) (132 + 3 * b) c3) (132 + 3 * b + 1) c4) (132 + 3 * b + 2) c5) hw (by simp (disch := omega) only [z_us, z_un]) (by simp (disch := omega) only [z_us, z_un]) (by simp (disch := omega) only [z_us, z_un]) (by simp (disch := omega) only [z_us, z_un]) (fun i h1 h2 => by simp (disch := omega) only [z_un])
    refine ⟨a6, od2, (b6.1, va_up b6.2 1 _), hcl od2 o1, ?_, Or.inl ⟨t6.row, by dsimp only; rw [z_vs]; exact o2⟩, hf, ⟨hk.1, fun r hr => by dsimp only; rw [z_vn hr, hk.2]⟩⟩
    simp only [F_X9_readsBridge, j2, z_bsN]
    rw [if_neg (by decide)]
    simp only [z_bsN, z_al9, h9]
    rw [if_neg hne]
    simp only [z_bsN]
    rw [if_pos h.2.1, m1]
    simp only [z_bsN, m3, m4, m5, m6]
    rw [if_pos t6.2.1, hrow]
    have ix : ∀ w : Nat, (132 : Int32) + 3 * nI b + nI w = nI (132 + 3 * b + w) := fun w => z_ixB b w
    have i0 : (132 : Int32) + 3 * nI b + 0 = nI (132 + 3 * b) := ix 0
    have i1 : (132 : Int32) + 3 * nI b + 1 = nI (132 + 3 * b + 1) := ix 1
    have i2 : (132 : Int32) + 3 * nI b + 2 = nI (132 + 3 * b + 2) := ix 2
    simp only [z_al9, z_as9, h9, z_bsN, z_leN, nI_1, i0, i1, i2]
    simp (disch := omega) only [z_ast, z_bsN, z_leN, z_vs, z_vv]
  · obtain ⟨od2, ho⟩ := C_addB od c3 c4 c5
    refine ⟨a6, od2, b6, hcl od2 ho, ?_, Or.inr t6, hf, hk.lf⟩
    simp only [F_X9_readsBridge, j2, z_bsN]
    rw [if_neg (by decide)]
    simp only [z_bsN, z_al9, h9]
    rw [if_neg hne]
    simp only [z_bsN]
    rw [if_pos h.2.1, m1]
    simp only [z_bsN, m3, m4, m5, m6]
    rw [if_neg t6.w]
end BRIDGE
