/-! Joining and leaving the queues. -/
section JOIN
variable {P B J J2 : Nat} {os op op2 ow oe oB : ob} {g g2 : Nat → Int32} {qw qe : List Nat}
theorem okG.out (h : okG P B J g) {p : Nat} (hp : p < P) (k : ∀ i : Nat, i ≠ 12 + 8 * p + 6 → g2 i = g i) (h0 : g2 (12 + 8 * p + 6) = 0) : okG P B J g2 := by
  have hP := h.1.1
  have hB := h.1.2.1
  refine ⟨h.1.c (k _ (by omega)) (k _ (by omega)), h.2.1.c (Nat.le_refl _) (k _ (by omega)) (fun c hc => k _ (by omega)), h.2.2.1.c (k _ (by omega)) (k _ (by omega)), ?_, ?_, h.2.2.2.2.2.1.c (fun c hc => k _ (by omega)), h.2.2.2.2.2.2.1.c (fun c hc => ⟨k _ (by omega), k _ (by omega), k _ (by omega)⟩), h.2.2.2.2.2.2.2.c (fun b hb => k _ (by omega))⟩
  · obtain ⟨⟨q, hq, e⟩, hg⟩ := h.2.2.2.1
    refine ⟨⟨q, hq, (k _ (by omega)).trans e⟩, fun c hc => ?_⟩
    obtain ⟨a1, a2, a3, a4⟩ := hg c hc
    rw [k (12 + 8 * c) (by omega), k (12 + 8 * c + 1) (by omega), k (12 + 8 * c + 7) (by omega), k 11 (by omega)]
    refine ⟨a1, a2, ?_⟩
    by_cases r : c = p
    · subst r
      rw [h0]
      exact ⟨⟨by decide, by decide⟩, fun q => absurd q (by decide)⟩
    · rw [k (12 + 8 * c + 6) (by omega)]
      exact ⟨a3, a4⟩
  · intro a b ha hb hab h1 h2
    have ea : a ≠ p := fun q => by subst q; rw [h0] at h1; exact absurd h1 (by decide)
    have eb : b ≠ p := fun q => by subst q; rw [h0] at h2; exact absurd h2 (by decide)
    rw [k (12 + 8 * a + 6) (by omega)] at h1
    rw [k (12 + 8 * b + 6) (by omega)] at h2
    rw [k _ (by omega), k _ (by omega)]
    exact h.2.2.2.2.1 a b ha hb hab h1 h2
theorem RP.f (h : RP P op g) (hP : P ≤ 10) (k : ∀ i : Nat, (i < 2 ∨ (4 < i ∧ i < 8) ∨ (12 ≤ i ∧ i < 92 ∧ (i % 8 = 5 ∨ i % 8 = 6 ∨ i % 8 = 7 ∨ i % 8 = 0 ∨ i % 8 = 1))) → g2 i = g i) : RP P op g2 := by
  obtain ⟨⟨a1, a2, a3, a4, a5⟩, b1, b2, b3, b4, b5⟩ := h
  unfold RP
  rw [k 0 (by omega), k 1 (by omega), k 5 (by omega), k 6 (by omega), k 7 (by omega)]
  refine ⟨⟨a1, a2, a3, a4, a5⟩, fun c hc => ?_, fun c hc => ?_, fun c hc => ?_, fun c hc => ?_, fun c hc => ?_⟩
  · rw [k _ (by omega)]; exact b1 c hc
  · rw [k _ (by omega)]; exact b2 c hc
  · rw [k _ (by omega)]; exact b3 c hc
  · rw [k _ (by omega)]; exact b4 c hc
  · rw [k _ (by omega)]; exact b5 c hc
theorem z_notin {e e2 : Int32} {o : ob} {ql : List Nat} (h : RQ P o g e ql) {p : Nat} (he : g (12 + 8 * p + 1) = e2) (hne : e ≠ e2) : p ∉ ql := by
  intro hm
  have := ((h.1.1 p).mp hm).2
  simp only [z_lof, Bool.and_eq_true, decide_eq_true_eq] at this
  exact hne (this.2.symm.trans he)
theorem z_isin {e : Int32} {o : ob} {ql : List Nat} (h : RQ P o g e ql) {p : Nat} (hp : p < P) (he : g (12 + 8 * p + 1) = e) (hq : 0 < g (12 + 8 * p + 6)) : ∃ (i : Nat) (hi : i < ql.length), ql[i] = p := by
  have hm : p ∈ ql := (h.1.1 p).mpr ⟨hp, by simp only [z_lof, z_qd, Bool.and_eq_true, decide_eq_true_eq]; exact ⟨hq, he⟩⟩
  obtain ⟨i, hi, e2⟩ := List.mem_iff_getElem.mp hm
  exact ⟨i, hi, e2⟩
theorem okG.inn (h : okG P B J g) (hJ : J + 1 < 2 ^ 31) {p : Nat} {y : Int32} (hp : p < P) (hy : 0 ≤ y ∧ y ≤ 99) (k : ∀ i : Nat, i ≠ 11 → i ≠ 12 + 8 * p + 6 → i ≠ 12 + 8 * p + 7 → g2 i = g i) (h6 : g2 (12 + 8 * p + 6) = y + 1) (h7 : g2 (12 + 8 * p + 7) = g 11) (h11 : g2 11 = g 11 + 1) : okG P B (J + 1) g2 := by
  have hP := h.1.1
  have hB := h.1.2.1
  refine ⟨h.1.c (k _ (by omega) (by omega) (by omega)) (k _ (by omega) (by omega) (by omega)), h.2.1.c (by omega) (k _ (by omega) (by omega) (by omega)) (fun c hc => k _ (by omega) (by omega) (by omega)), h.2.2.1.c (k _ (by omega) (by omega) (by omega)) (k _ (by omega) (by omega) (by omega)), ?_, ?_, h.2.2.2.2.2.1.c (fun c hc => k _ (by omega) (by omega) (by omega)), h.2.2.2.2.2.2.1.c (fun c hc => ⟨k _ (by omega) (by omega) (by omega), k _ (by omega) (by omega) (by omega), k _ (by omega) (by omega) (by omega)⟩), h.2.2.2.2.2.2.2.c (fun b hb => k _ (by omega) (by omega) (by omega))⟩
  · obtain ⟨⟨q, hq, e⟩, hg⟩ := h.2.2.2.1
    have e2 : g2 11 = nI (q + 1) := by rw [h11, e, nI_1]
    have e3 : (nI q : Int32) < nI (q + 1) := nI_lt (by omega) (by omega)
    refine ⟨⟨q + 1, by omega, e2⟩, fun c hc => ?_⟩
    obtain ⟨a1, a2, a3, a4⟩ := hg c hc
    rw [k (12 + 8 * c) (by omega) (by omega) (by omega), k (12 + 8 * c + 1) (by omega) (by omega) (by omega)]
    refine ⟨a1, a2, ?_⟩
    by_cases r : c = p
    · subst r
      rw [h6, h7, e2, e]
      refine ⟨?_, fun _ => ⟨nI_pos' (by omega), e3⟩⟩
      grind
    · rw [k (12 + 8 * c + 6) (by omega) (by omega) (by omega), k (12 + 8 * c + 7) (by omega) (by omega) (by omega), e2]
      refine ⟨a3, fun q2 => ⟨(a4 q2).1, ?_⟩⟩
      have := (a4 q2).2
      rw [e] at this
      exact Int32.lt_trans this e3
  · intro a b ha hb hab h1 h2
    by_cases ea : a = p
    · subst ea
      rw [k (12 + 8 * b + 6) (by omega) (by omega) (by omega)] at h2
      rw [h7, k (12 + 8 * b + 7) (by omega) (by omega) (by omega)]
      intro q
      have q2 := ((h.2.2.2.1.2 b hb).2.2.2 h2).2
      rw [q] at q2
      exact Int32.lt_irrefl q2
    · by_cases eb : b = p
      · subst eb
        rw [k (12 + 8 * a + 6) (by omega) (by omega) (by omega)] at h1
        rw [h7, k (12 + 8 * a + 7) (by omega) (by omega) (by omega)]
        intro q
        have q2 := ((h.2.2.2.1.2 a ha).2.2.2 h1).2
        rw [q] at q2
        exact Int32.lt_irrefl q2
      · rw [k (12 + 8 * a + 6) (by omega) (by omega) (by omega)] at h1
        rw [k (12 + 8 * b + 6) (by omega) (by omega) (by omega)] at h2
        rw [k _ (by omega) (by omega) (by omega), k _ (by omega) (by omega) (by omega)]
        exact h.2.2.2.2.1 a b ha hb hab h1 h2
end JOIN
