/-! The position a game begins with. -/
section BEGIN
variable {ot om od ot2 om2 od2 ot3 om3 os op ow oe : ob} {E n s p b P B : Nat} {g g2 : Nat → Int32}
theorem LD.cong (h : LD P B od g) (k1 : ∀ i : Nat, i < 6 → os.1 i = od.1 i) (k2 : ∀ r i : Nat, 6 ≤ r → r ≤ 10 → i < P → os.2 r i = od.2 r i) (k3 : ∀ r i : Nat, 11 ≤ r → r ≤ 13 → i < B → os.2 r i = od.2 r i) : LD P B os g := by
  obtain ⟨⟨a0, a1, a2, a3, a4, a5, a8, a9, ap, ab⟩, ⟨hl, z0, z5, z6, z7, z11, z10⟩, hpp, hz, hbb⟩ := h
  refine ⟨⟨(k1 _ (by omega)).trans a0, (k1 _ (by omega)).trans a1, (k1 _ (by omega)).trans a2, (k1 _ (by omega)).trans a3, (k1 _ (by omega)).trans a4, (k1 _ (by omega)).trans a5, a8, a9, ap, ab⟩, ⟨hl, z0, z5, z6, z7, z11, ?_⟩, fun q hq => ?_, hz, fun c hc => ?_⟩
  · rw [z10]; exact z_sum_congr (fun c hc => (k2 8 c (by omega) (by omega) hc).symm)
  · rw [k2 6 q (by omega) (by omega) hq, k2 7 q (by omega) (by omega) hq, k2 8 q (by omega) (by omega) hq, k2 9 q (by omega) (by omega) hq, k2 10 q (by omega) (by omega) hq]
    exact hpp q hq
  · rw [k3 11 c (by omega) (by omega) hc, k3 12 c (by omega) (by omega) hc, k3 13 c (by omega) (by omega) hc]
    exact hbb c hc
theorem C_copyS (h : LD P B od g) : ∃ y : ob, F_X5_copyFrom os od = some y ∧ LD P B y g := by
  have hP := h.1.2.2.2.2.2.2.2.2
  simp only [F_X5_copyFrom, z_leN]
  refine ⟨_, rfl, h.cong (fun i hi => ?_) (fun r i h1 h2 hi => ?_) (fun r i h1 h2 hi => ?_)⟩
  · have : i = 0 ∨ i = 1 ∨ i = 2 ∨ i = 3 ∨ i = 4 ∨ i = 5 := by omega
    rcases this with rfl | rfl | rfl | rfl | rfl | rfl <;> simp (disch := omega) only [z_us, z_un]
  · have : r = 6 ∨ r = 7 ∨ r = 8 ∨ r = 9 ∨ r = 10 := by omega
    rcases this with rfl | rfl | rfl | rfl | rfl <;> simp (disch := omega) only [z_vs, z_vn, z_rcp]
  · have : r = 11 ∨ r = 12 ∨ r = 13 := by omega
    rcases this with rfl | rfl | rfl <;> simp (disch := omega) only [z_vs, z_vn, z_rcp]
theorem C_begin (h : LD P B os g) (hP3 : 3 ≤ P) (hB1 : 1 ≤ B) : ∃ y : ob × ob × ob, F_X2_begin op ow oe os = some y ∧ RPos P B 0 os y.1 y.2.1 y.2.2 g [] [] := by
  obtain ⟨⟨a0, a1, a2, a3, a4, a5, a8, a9, ap, ab⟩, ⟨hl, z0, z5, z6, z7, z11, z10⟩, hpp, hz, hbb⟩ := h
  have hk : ∀ i : Nat, i < 10 → F_X5_hasKing os (nI i) = some (if i < P ∧ g (12 + 8 * i) = 1 then 1 else 0) := by
    intro i hi
    simp only [F_X5_hasKing, F_X5_hasPerson, a4]
    rw [if_neg (nI_pos (by omega))]
    by_cases q : i < P
    · rw [z_ig q (by omega)]
      simp only [z_bsN]
      rw [if_neg (by decide), z_at (by omega) (by omega), (hpp i q).1]
      by_cases r : g (12 + 8 * i) = 1
      · rw [if_pos r, if_pos ⟨q, r⟩]
      · rw [if_neg r, if_neg (fun t => r t.2)]
    · rw [z_il (by omega) (by omega)]
      simp only [z_bsN]
      rw [if_pos trivial, if_neg (fun t => q t.1)]
  -- the position before the people are gone through
  obtain ⟨X, hX, x1, x2, x3, x40, x41, x5, x6, x7⟩ : ∃ X : ob, F_X2_begin op ow oe os = ((F_X2_begin_113 os 100000 X (upd ow.1 2 ((0 : Int32)), ow.2) (upd oe.1 2 ((0 : Int32)), oe.2) ((0 : Int32))).bind fun zl23 => some (zl23.2.1, zl23.2.2.1, zl23.2.2.2)) ∧ X.1 1 = 0 ∧ X.1 2 = os.1 0 ∧ X.1 3 = 0 ∧ X.2 4 0 = 0 ∧ X.2 4 1 = 0 ∧ (∀ i : Nat, i < 10 → X.2 5 i = os.2 7 i) ∧ (∀ i : Nat, i < 10 → X.2 6 i = os.2 8 i) ∧ ∀ i : Nat, i < 10 → X.2 7 i = os.2 9 i := by
    simp only [F_X2_begin, z_leN]
    refine ⟨_, rfl, ?_, ?_, ?_, ?_, ?_, fun i hi => ?_, fun i hi => ?_, fun i hi => ?_⟩
    · simp (disch := omega) only [z_us, z_un]
    · simp (disch := omega) only [z_us, z_un]
    · simp (disch := omega) only [z_us, z_un]
    · simp (disch := omega) only [z_vs, z_vn]
      rw [show (1 : Int32) = nI 1 from rfl, show (0 : Int32) = nI 0 from rfl, z_put (by omega) (by omega), z_put (by omega) (by omega), z_un (by omega), z_us]
    · simp (disch := omega) only [z_vs, z_vn]
      rw [show (1 : Int32) = nI 1 from rfl, z_put (by omega) (by omega), z_us]
    · simp (disch := omega) only [z_vs, z_vn, z_rcp]
    · simp (disch := omega) only [z_vs, z_vn, z_rcp]
    · simp (disch := omega) only [z_vs, z_vn, z_rcp]
  obtain ⟨x, Y, y0, y1, y2, y3⟩ := B_113 (ow := (upd ow.1 2 ((0 : Int32)), ow.2)) (oe := (upd oe.1 2 ((0 : Int32)), oe.2)) hk 10 0 100000 X (by omega) (by omega) (fun i hi => by omega)
  have y0 : F_X2_begin_113 os 100000 X (upd ow.1 2 ((0 : Int32)), ow.2) (upd oe.1 2 ((0 : Int32)), oe.2) 0 = _ := y0
  refine ⟨(Y, (upd ow.1 2 0, ow.2), (upd oe.1 2 0, oe.2)), by rw [hX, y0]; rfl, ?_, ?_, ?_, ?_, ?_, ?_⟩
  · refine ⟨⟨⟨hP3, ap⟩, ⟨hB1, ab⟩, a8, a9⟩, ⟨0, by omega, z0, fun q hq => ⟨0, by omega, (hz q (by omega)).1⟩⟩, hl, ⟨⟨0, by omega, z11⟩, fun q hq => ?_⟩, fun p q hp hq hne h1 h2 => ?_, ⟨fun q hq => ⟨q, hq, (hpp q hq).2.2.2.2.2.2.1⟩, fun r hr => ⟨r, hr, (hpp r hr).2.2.2.2.2.2.1⟩⟩, fun q hq => ⟨Or.inr ⟨q, hq, (hpp q hq).2.2.2.2.2.2.2.2⟩, Or.inl (hz q (by omega)).2.2.2.1, Or.inl (hz q (by omega)).2.2.2.2⟩, fun c hc => (hbb c hc).2.2.2⟩
    · have t := hpp q hq
      refine ⟨t.2.1, t.2.2.2.1, ?_, ?_⟩
      · rw [(hz q (by omega)).2.1]; exact ⟨by decide, by decide⟩
      · rw [(hz q (by omega)).2.1]; exact fun r => absurd r (by decide)
    · rw [(hz p (by omega)).2.1] at h1
      exact absurd h1 (by decide)
  · exact ⟨⟨a1, a2, a3, a4.trans a8.symm, a5.trans a9.symm⟩, fun q hq => ⟨(hpp q hq).1, (hpp q hq).2.2.2.2.2.2.2.1⟩, fun c hc => ⟨(hbb c hc).1, (hbb c hc).2.1, (hbb c hc).2.2.1⟩, z10.symm⟩
  · refine ⟨⟨?_, ?_, ?_, ?_, ?_⟩, fun q hq => ?_, fun q hq => ?_, fun q hq => ?_, fun q hq => ?_, fun q hq => ?_⟩
    · rw [y1, x1, z0]
    · rw [y1, x2, a0]
    · rw [y1, x3, z5]
    · rw [y2 4 (by omega) (by omega) (by omega) (by omega), x40, z6]
    · rw [y2 4 (by omega) (by omega) (by omega) (by omega), x41, z7]
    · rw [y2 5 (by omega) (by omega) (by omega) (by omega), x5 q (by omega), (hpp q hq).2.2.1]
    · rw [y2 6 (by omega) (by omega) (by omega) (by omega), x6 q (by omega), (hpp q hq).2.2.2.2.1]
    · rw [y2 7 (by omega) (by omega) (by omega) (by omega), x7 q (by omega), (hpp q hq).2.2.2.2.2.1]
    · rw [(y3 q (by omega)).1, (hpp q hq).2.2.2.2.2.2.1]
    · rw [(y3 q (by omega)).2.1, (hz q (by omega)).1]
  · intro q hq
    have t := y3 q (by omega)
    refine ⟨fun h1 => ⟨?_, ?_, fun h2 => ?_⟩, fun h0 => ⟨?_, t.2.2.2⟩⟩
    · rw [t.2.2.1, z_10, if_pos ⟨hq, h1⟩, (hpp q hq).2.2.2.2.2.2.2.2]
    · rw [t.2.2.2, (hz q (by omega)).2.2.2.2]
    · rw [(hpp q hq).2.2.2.2.2.2.2.2] at h2
      exact absurd h2 (z_m1 (by omega))
    · rw [t.2.2.1, z_10, if_neg (fun u => by rw [u.2] at h0; exact absurd h0 (by decide))]
  · refine ⟨⟨fun q => ⟨fun h => (nomatch h), fun h => ?_⟩, List.Pairwise.nil⟩, (by dsimp only; rw [z_us]; rfl), fun i hi => (nomatch hi)⟩
    rw [z_lof0 (hz q (by omega)).2.1] at h
    exact absurd h.2 (by decide)
  · refine ⟨⟨fun q => ⟨fun h => (nomatch h), fun h => ?_⟩, List.Pairwise.nil⟩, (by dsimp only; rw [z_us]; rfl), fun i hi => (nomatch hi)⟩
    rw [z_lof0 (hz q (by omega)).2.1] at h
    exact absurd h.2 (by decide)
end BEGIN
