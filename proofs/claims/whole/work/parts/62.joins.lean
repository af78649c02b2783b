/-! Joining and leaving the queues. -/
section JOIN
variable {P B J J2 : Nat} {os op op2 ow oe oB om : ob} {g g2 : Nat → Int32} {qw qe : List Nat}
theorem okG.out (h : okG P B J g) {p : Nat} (hp : p < P) (k : ∀ i : Nat, i ≠ 12 + 8 * p + 6 → g2 i = g i) (h0 : g2 (12 + 8 * p + 6) = 0) : okG P B J g2 := by
  have hP := h.1.1
  have hB := h.1.2.1
  refine ⟨h.1.c (k _ (by omega)) (k _ (by omega)), h.2.1.c (Nat.le_refl _) (k _ (by omega)) (fun c hc => k _ (by omega)), h.2.2.1.c (k _ (by omega)) (k _ (by omega)), ?_, ?_, h.2.2.2.2.2.1.c (fun c hc => k _ (by omega)), h.2.2.2.2.2.2.1.c (fun c hc => ⟨k _ (by omega), k _ (by omega), k _ (by omega)⟩), h.2.2.2.2.2.2.2.c (fun b hb => k _ (by omega))⟩
  · obtain ⟨⟨q, hq, e⟩, hg⟩ := h.2.2.2.1
    refine ⟨⟨q, hq, (k _ (by omega)).trans e⟩, fun c hc => ?_⟩
    obtain ⟨a1, a2, a3, a4⟩ := hg c hc
    rw [k (12 + 8 * c) (by omega), k (12 + 8 * c + 1) (by omega), k (12 + 8 * c + 7) (by omega), k 11 (by omega)]
    refine ⟨a1, a2, ?_⟩
    by_cases r : c = p
    · subst r
      rw [h0]
      exact ⟨⟨by decide, by decide⟩, fun q => absurd q (by decide)⟩
    · rw [k (12 + 8 * c + 6) (by omega)]
      exact ⟨a3, a4⟩
  · intro a b ha hb hab h1 h2
    have ea : a ≠ p := fun q => by subst q; rw [h0] at h1; exact absurd h1 (by decide)
    have eb : b ≠ p := fun q => by subst q; rw [h0] at h2; exact absurd h2 (by decide)
    rw [k (12 + 8 * a + 6) (by omega)] at h1
    rw [k (12 + 8 * b + 6) (by omega)] at h2
    rw [k _ (by omega), k _ (by omega)]
    exact h.2.2.2.2.1 a b ha hb hab h1 h2
theorem RP.f (h : RP P op g) (hP : P ≤ 10) (k : ∀ i : Nat, (i < 2 ∨ (4 < i ∧ i < 8) ∨ (12 ≤ i ∧ i < 92 ∧ (i % 8 = 5 ∨ i % 8 = 6 ∨ i % 8 = 7 ∨ i % 8 = 0 ∨ i % 8 = 1))) → g2 i = g i) : RP P op g2 := by
  obtain ⟨⟨a1, a2, a3, a4, a5⟩, b1, b2, b3, b4, b5⟩ := h
  unfold RP
  rw [k 0 (by omega), k 1 (by omega), k 5 (by omega), k 6 (by omega), k 7 (by omega)]
  refine ⟨⟨a1, a2, a3, a4, a5⟩, fun c hc => ?_, fun c hc => ?_, fun c hc => ?_, fun c hc => ?_, fun c hc => ?_⟩
  · rw [k _ (by omega)]; exact b1 c hc
  · rw [k _ (by omega)]; exact b2 c hc
  · rw [k _ (by omega)]; exact b3 c hc
  · rw [k _ (by omega)]; exact b4 c hc
  · rw [k _ (by omega)]; exact b5 c hc
theorem z_notin {e e2 : Int32} {o : ob} {ql : List Nat} (h : RQ P o g e ql) {p : Nat} (he : g (12 + 8 * p + 1) = e2) (hne : e ≠ e2) : p ∉ ql := by
  intro hm
  have := ((h.1.1 p).mp hm).2
  simp only [z_lof, Bool.and_eq_true, decide_eq_true_eq] at this
  exact hne (this.2.symm.trans he)
theorem z_isin {e : Int32} {o : ob} {ql : List Nat} (h : RQ P o g e ql) {p : Nat} (hp : p < P) (he : g (12 + 8 * p + 1) = e) (hq : 0 < g (12 + 8 * p + 6)) : ∃ (i : Nat) (hi : i < ql.length), ql[i] = p := by
  have hm : p ∈ ql := (h.1.1 p).mpr ⟨hp, by simp only [z_lof, z_qd, Bool.and_eq_true, decide_eq_true_eq]; exact ⟨hq, he⟩⟩
  obtain ⟨i, hi, e2⟩ := List.mem_iff_getElem.mp hm
  exact ⟨i, hi, e2⟩
theorem DO_6 (h : RPos P B J os op ow oe (om.2 1) qw qe) {p : Nat} (hp : p < P) (hq : 0 < om.2 1 (12 + 8 * p + 6)) (y : Int32) : ∃ (v : Int32) (ow2 oe2 : ob) (g2 : Nat → Int32) (qw2 qe2 : List Nat), F_X2_quit op ow oe (nI p) = some (v, ow2, oe2) ∧ F_X9_does om 6 (nI p) y = some (v, (om.1, va_up om.2 1 g2)) ∧ RPos P B J os op ow2 oe2 g2 qw2 qe2 := by
  have hP := h.hP
  have k : ∀ i : Nat, i ≠ 12 + 8 * p + 6 → upd (om.2 1) (12 + 8 * p + 6) 0 i = om.2 1 i := fun i h1 => by rw [z_un h1]
  have k0 : upd (om.2 1) (12 + 8 * p + 6) 0 (12 + 8 * p + 6) = 0 := by rw [z_us]
  have hm : F_X9_does om 6 (nI p) y = some (om.2 1 (12 + 8 * p + 6) - 1, (om.1, va_up om.2 1 (upd (om.2 1) (12 + 8 * p + 6) 0))) := by
    simp (decide := true) only [F_X9_does, if_true, if_false, F_X9_quits, M_of6 (show p < 10 by omega), M_lays6 (show p < 10 by omega), Option.bind_some, z_le]
  generalize upd (om.2 1) (12 + 8 * p + 6) 0 = g2 at k k0 hm
  obtain ⟨hok, hrs, hrp, hrk, hw, he⟩ := h
  have n1 := hok.out hp k k0
  have n2 := hrs.f (g2 := g2) hP.2 (fun i hi => k i (by omega))
  have n3 := hrp.f (g2 := g2) hP.2 (fun i hi => k i (by omega))
  have n4 := hrk.f (op2 := op) (g2 := g2) hP.2 ⟨rfl, rfl, rfl⟩ (fun i hi => k i (by omega))
  have hk2 : ∀ c : Nat, c < P → c ≠ p → g2 (12 + 8 * c + 1) = om.2 1 (12 + 8 * c + 1) ∧ g2 (12 + 8 * c + 6) = om.2 1 (12 + 8 * c + 6) ∧ g2 (12 + 8 * c + 7) = om.2 1 (12 + 8 * c + 7) := fun c hc hne => ⟨k _ (by omega), k _ (by omega), k _ (by omega)⟩
  rcases (hok.2.2.2.1.2 p hp).2.1 with e | e
  · obtain ⟨i, hi, rfl⟩ := z_isin hw hp e hq
    obtain ⟨o2, r1, r2⟩ := hw.remove hP.2 hi k0 hk2
    refine ⟨_, o2, oe, g2, _, _, ?_, hm, n1, n2, n3, n4, r2, he.other (z_notin he e (by decide)) (z_lof0 k0) hk2⟩
    simp only [F_X2_quit]
    rw [z_at (by omega) (by omega), hrp.2.1 _ hp, e, if_neg (by decide), C_place hP.2 hw hi, Option.bind_some, C_offer hP.2 hw hi, Option.bind_some, r1, Option.bind_some]
  · obtain ⟨i, hi, rfl⟩ := z_isin he hp e hq
    obtain ⟨o2, r1, r2⟩ := he.remove hP.2 hi k0 hk2
    refine ⟨_, ow, o2, g2, _, _, ?_, hm, n1, n2, n3, n4, hw.other (z_notin hw e (by decide)) (z_lof0 k0) hk2, r2⟩
    simp only [F_X2_quit]
    rw [z_at (by omega) (by omega), hrp.2.1 _ hp, e, if_pos rfl, C_place hP.2 he hi, Option.bind_some, C_offer hP.2 he hi, Option.bind_some, r1, Option.bind_some]
theorem okG.inn (h : okG P B J g) (hJ : J + 1 < 2 ^ 31) {p : Nat} {y : Int32} (hp : p < P) (hy : 0 ≤ y ∧ y ≤ 99) (k : ∀ i : Nat, i ≠ 11 → i ≠ 12 + 8 * p + 6 → i ≠ 12 + 8 * p + 7 → g2 i = g i) (h6 : g2 (12 + 8 * p + 6) = y + 1) (h7 : g2 (12 + 8 * p + 7) = g 11) (h11 : g2 11 = g 11 + 1) : okG P B (J + 1) g2 := by
  have hP := h.1.1
  have hB := h.1.2.1
  refine ⟨h.1.c (k _ (by omega) (by omega) (by omega)) (k _ (by omega) (by omega) (by omega)), h.2.1.c (by omega) (k _ (by omega) (by omega) (by omega)) (fun c hc => k _ (by omega) (by omega) (by omega)), h.2.2.1.c (k _ (by omega) (by omega) (by omega)) (k _ (by omega) (by omega) (by omega)), ?_, ?_, h.2.2.2.2.2.1.c (fun c hc => k _ (by omega) (by omega) (by omega)), h.2.2.2.2.2.2.1.c (fun c hc => ⟨k _ (by omega) (by omega) (by omega), k _ (by omega) (by omega) (by omega), k _ (by omega) (by omega) (by omega)⟩), h.2.2.2.2.2.2.2.c (fun b hb => k _ (by omega) (by omega) (by omega))⟩
  · obtain ⟨⟨q, hq, e⟩, hg⟩ := h.2.2.2.1
    have e2 : g2 11 = nI (q + 1) := by rw [h11, e, nI_1]
    have e3 : (nI q : Int32) < nI (q + 1) := nI_lt (by omega) (by omega)
    refine ⟨⟨q + 1, by omega, e2⟩, fun c hc => ?_⟩
    obtain ⟨a1, a2, a3, a4⟩ := hg c hc
    rw [k (12 + 8 * c) (by omega) (by omega) (by omega), k (12 + 8 * c + 1) (by omega) (by omega) (by omega)]
    refine ⟨a1, a2, ?_⟩
    by_cases r : c = p
    · subst r
      rw [h6, h7, e2, e]
      refine ⟨?_, fun _ => ⟨nI_pos' (by omega), e3⟩⟩
      grind
    · rw [k (12 + 8 * c + 6) (by omega) (by omega) (by omega), k (12 + 8 * c + 7) (by omega) (by omega) (by omega), e2]
      refine ⟨a3, fun q2 => ⟨(a4 q2).1, ?_⟩⟩
      have := (a4 q2).2
      rw [e] at this
      exact Int32.lt_trans this e3
  · intro a b ha hb hab h1 h2
    by_cases ea : a = p
    · subst ea
      rw [k (12 + 8 * b + 6) (by omega) (by omega) (by omega)] at h2
      rw [h7, k (12 + 8 * b + 7) (by omega) (by omega) (by omega)]
      intro q
      have q2 := ((h.2.2.2.1.2 b hb).2.2.2 h2).2
      rw [q] at q2
      exact Int32.lt_irrefl q2
    · by_cases eb : b = p
      · subst eb
        rw [k (12 + 8 * a + 6) (by omega) (by omega) (by omega)] at h1
        rw [h7, k (12 + 8 * a + 7) (by omega) (by omega) (by omega)]
        intro q
        have q2 := ((h.2.2.2.1.2 a ha).2.2.2 h1).2
        rw [q] at q2
        exact Int32.lt_irrefl q2
      · rw [k (12 + 8 * a + 6) (by omega) (by omega) (by omega)] at h1
        rw [k (12 + 8 * b + 6) (by omega) (by omega) (by omega)] at h2
        rw [k _ (by omega) (by omega) (by omega), k _ (by omega) (by omega) (by omega)]
        exact h.2.2.2.2.1 a b ha hb hab h1 h2
theorem DO_5 (h : RPos P B J os op ow oe (om.2 1) qw qe) (hJ : J + 1 < 2 ^ 31) {p : Nat} (hp : p < P) (hq : ¬ 0 < om.2 1 (12 + 8 * p + 6)) {y : Int32} (hy : 0 ≤ y ∧ y ≤ 99) : ∃ (v : Int32) (ow2 oe2 : ob) (g2 : Nat → Int32) (qw2 qe2 : List Nat), F_X2_join op ow oe (nI p) y = some (v, ow2, oe2) ∧ F_X9_does om 5 (nI p) y = some (v, (om.1, va_up om.2 1 g2)) ∧ RPos P B (J + 1) os op ow2 oe2 g2 qw2 qe2 := by
  have hP := h.hP
  have hB := h.hB
  have k : ∀ i : Nat, i ≠ 11 → i ≠ 12 + 8 * p + 6 → i ≠ 12 + 8 * p + 7 → upd (upd (upd (om.2 1) (12 + 8 * p + 6) (y + 1)) (12 + 8 * p + 7) (om.2 1 11)) 11 (om.2 1 11 + 1) i = om.2 1 i := fun i h1 h2 h3 => by rw [z_un h1, z_un h3, z_un h2]
  have k6 : upd (upd (upd (om.2 1) (12 + 8 * p + 6) (y + 1)) (12 + 8 * p + 7) (om.2 1 11)) 11 (om.2 1 11 + 1) (12 + 8 * p + 6) = y + 1 := by rw [z_un (by omega), z_un (by omega), z_us]
  have k7 : upd (upd (upd (om.2 1) (12 + 8 * p + 6) (y + 1)) (12 + 8 * p + 7) (om.2 1 11)) 11 (om.2 1 11 + 1) (12 + 8 * p + 7) = om.2 1 11 := by rw [z_un (by omega), z_us]
  have k11 : upd (upd (upd (om.2 1) (12 + 8 * p + 6) (y + 1)) (12 + 8 * p + 7) (om.2 1 11)) 11 (om.2 1 11 + 1) 11 = om.2 1 11 + 1 := by rw [z_us]
  have hm : F_X9_does om 5 (nI p) y = (F_X9_placeOf (om.1, va_up om.2 1 (upd (upd (upd (om.2 1) (12 + 8 * p + 6) (y + 1)) (12 + 8 * p + 7) (om.2 1 11)) 11 (om.2 1 11 + 1))) (nI p)).bind fun v => some (v, (om.1, va_up om.2 1 (upd (upd (upd (om.2 1) (12 + 8 * p + 6) (y + 1)) (12 + 8 * p + 7) (om.2 1 11)) 11 (om.2 1 11 + 1)))) := by
    simp (decide := true) only [F_X9_does, if_true, if_false, F_X9_joins, M_lays6 (show p < 10 by omega), M_lays7 (show p < 10 by omega), Option.bind_some, z_le, z_vs, z_vv, z_al11, z_as11]
    simp (disch := omega) only [z_un]
    cases F_X9_placeOf (om.1, va_up om.2 1 (upd (upd (upd (om.2 1) (12 + 8 * p + 6) (y + 1)) (12 + 8 * p + 7) (om.2 1 11)) 11 (om.2 1 11 + 1))) (nI p) <;> rfl
  generalize upd (upd (upd (om.2 1) (12 + 8 * p + 6) (y + 1)) (12 + 8 * p + 7) (om.2 1 11)) 11 (om.2 1 11 + 1) = g2 at k k6 k7 k11 hm
  obtain ⟨hok, hrs, hrp, hrk, hw, he⟩ := h
  have n1 := hok.inn hJ hp hy k k6 k7 k11
  have n2 := hrs.f (g2 := g2) hP.2 (fun i hi => k i (by omega) (by omega) (by omega))
  have n3 := hrp.f (g2 := g2) hP.2 (fun i hi => k i (by omega) (by omega) (by omega))
  have n4 := hrk.f (op2 := op) (g2 := g2) hP.2 ⟨rfl, rfl, rfl⟩ (fun i hi => k i (by omega) (by omega) (by omega))
  have hk2 : ∀ c : Nat, c < P → c ≠ p → g2 (12 + 8 * c + 1) = om.2 1 (12 + 8 * c + 1) ∧ g2 (12 + 8 * c + 6) = om.2 1 (12 + 8 * c + 6) ∧ g2 (12 + 8 * c + 7) = om.2 1 (12 + 8 * c + 7) := fun c hc hne => ⟨k _ (by omega) (by omega) (by omega), k _ (by omega) (by omega) (by omega), k _ (by omega) (by omega) (by omega)⟩
  have hno : ∀ (o : ob) (e : Int32) (ql : List Nat), RQ P o (om.2 1) e ql → p ∉ ql ∧ (∀ c : Nat, c ∈ ql → om.2 1 (12 + 8 * c + 7) < g2 (12 + 8 * p + 7)) ∧ ∀ c : Nat, c ∈ ql → om.2 1 (12 + 8 * c + 6) ≤ 100 := by
    intro o e ql hr
    have b : ∀ c : Nat, c ∈ ql → c < P ∧ 0 < om.2 1 (12 + 8 * c + 6) := fun c hc => by
      have := (hr.1.1 c).mp hc
      simp only [z_lof, z_qd, Bool.and_eq_true, decide_eq_true_eq] at this
      exact ⟨this.1, this.2.1⟩
    refine ⟨fun hc => hq (b p hc).2, fun c hc => ?_, fun c hc => (hok.2.2.2.1.2 c (b c hc).1).2.2.1.2⟩
    rw [k7]
    exact ((hok.2.2.2.1.2 c (b c hc).1).2.2.2 (b c hc).2).2
  have hpl : ∀ (o : ob) (e : Int32) (ql : List Nat), RQ P o g2 e ql → ∀ (i : Nat) (hi : i < ql.length), ql[i] = p → F_X9_placeOf (om.1, va_up om.2 1 g2) (nI p) = some (nI i) := by
    intro o e ql hr i hi ei
    have h1 := M_po (om := (om.1, va_up om.2 1 g2)) (P := P) (p := p) hP.2 (by simp only [z_vs]; exact n1.1.2.2.1) hp
    simp only [z_vs] at h1
    have h2 := hr.1.place hi
    rw [ei] at h2
    rw [h1, h2]
  rcases (hok.2.2.2.1.2 p hp).2.1 with e | e
  · have e1 : g2 (12 + 8 * p + 1) = 0 := (k _ (by omega) (by omega) (by omega)).trans e
    have hn := hno _ _ _ hw
    obtain ⟨i, o2, ql2, r1, r2, hi, r3⟩ := hw.join hP.2 hp hn.1 hy.1 hy.2 e1 k6 hn.2.1 hk2 hn.2.2
    refine ⟨nI i, o2, oe, g2, _, _, ?_, ?_, n1, n2, n3, n4, r2, he.other (z_notin he e (by decide)) (by simp [z_lof, e1]) hk2⟩
    · simp only [F_X2_join]
      rw [z_at (by omega) (by omega), hrp.2.1 _ hp, e, if_neg (by decide), r1, Option.bind_some]
    · rw [hm, hpl _ _ _ r2 i hi r3]; rfl
  · have e1 : g2 (12 + 8 * p + 1) = 1 := (k _ (by omega) (by omega) (by omega)).trans e
    have hn := hno _ _ _ he
    obtain ⟨i, o2, ql2, r1, r2, hi, r3⟩ := he.join hP.2 hp hn.1 hy.1 hy.2 e1 k6 hn.2.1 hk2 hn.2.2
    refine ⟨nI i, ow, o2, g2, _, _, ?_, ?_, n1, n2, n3, n4, hw.other (z_notin hw e (by decide)) (by simp [z_lof, e1]) hk2, r2⟩
    · simp only [F_X2_join]
      rw [z_at (by omega) (by omega), hrp.2.1 _ hp, e, if_pos rfl, r1, Option.bind_some]
    · rw [hm, hpl _ _ _ r2 i hi r3]; rfl
end JOIN
