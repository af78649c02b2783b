/-! Each change, class and model. -/
section DO
variable {P B J : Nat} {os op op2 ow oe oB : ob} {g g2 : Nat → Int32} {qw qe : List Nat}
theorem C_b01 (h : RPos P B J os op ow oe g qw qe) {p : Nat} (hp : p < P) : ∃ b : Nat, b < 2 ∧ g (12 + 8 * p + 1) = nI b := by
  rcases h.b01 hp with e | e
  · exact ⟨0, by omega, e⟩
  · exact ⟨1, by omega, e⟩
theorem C_g4 (h : RPos P B J os op ow oe g qw qe) {b : Nat} (hb : b < 2) : op.2 4 b = g (6 + b) := by
  have e := h.2.2.1.1.2.2.2
  match b, hb with
  | 0, _ => exact e.1
  | 1, _ => exact e.2
theorem RPos.coin (h : RPos P B J os op ow oe g qw qe) {p : Nat} (hp : p < P) (e1 : op2.1 = op.1) (e5 : ∀ r : Nat, r ≠ 4 → r ≠ 6 → op2.2 r = op.2 r) (e6 : ∀ k : Nat, k < P → op2.2 6 k = g2 (12 + 8 * k + 2)) (e4 : ∀ b : Nat, b < 2 → op2.2 4 b = g2 (6 + b)) (k : ∀ i : Nat, i ≠ 6 → i ≠ 7 → i ≠ 12 + 8 * p + 2 → g2 i = g i) : RPos P B J os op2 ow oe g2 qw qe := by
  have hP := h.hP
  obtain ⟨hok, hrs, hrp, hrk, hw, he⟩ := h
  refine ⟨hok.f (Nat.le_refl _) (fun i hi => k i (by omega) (by omega) (by omega)), hrs.f hP.2 (fun i hi => k i (by omega) (by omega) (by omega)), ?_, hrk.f hP.2 ⟨e5 _ (by omega) (by omega), e5 _ (by omega) (by omega), e5 _ (by omega) (by omega)⟩ (fun i hi => k i (by omega) (by omega) (by omega)), hw.f hP.2 (fun i hi => k i (by omega) (by omega) (by omega)), he.f hP.2 (fun i hi => k i (by omega) (by omega) (by omega))⟩
  obtain ⟨⟨a1, a2, a3, a4, a5⟩, b1, b2, b3, b4, b5⟩ := hrp
  refine ⟨⟨?_, ?_, ?_, e4 0 (by omega), e4 1 (by omega)⟩, fun q hq => ?_, e6, fun q hq => ?_, fun q hq => ?_, fun q hq => ?_⟩
  · rw [e1, k _ (by omega) (by omega) (by omega)]; exact a1
  · rw [e1, k _ (by omega) (by omega) (by omega)]; exact a2
  · rw [e1, k _ (by omega) (by omega) (by omega)]; exact a3
  · rw [e5 _ (by omega) (by omega), k _ (by omega) (by omega) (by omega)]; exact b1 q hq
  · rw [e5 _ (by omega) (by omega), k _ (by omega) (by omega) (by omega)]; exact b3 q hq
  · rw [e5 _ (by omega) (by omega), k _ (by omega) (by omega) (by omega)]; exact b4 q hq
  · rw [e5 _ (by omega) (by omega), k _ (by omega) (by omega) (by omega)]; exact b5 q hq
theorem z_upc {f : Nat → Int32} {p P w : Nat} {u : Int32} {g2 : Nat → Int32} (h : ∀ k : Nat, k < P → k ≠ p → f k = g2 (12 + 8 * k + w)) (h2 : u = g2 (12 + 8 * p + w)) : ∀ k : Nat, k < P → upd f p u k = g2 (12 + 8 * k + w) := by
  intro k hk
  by_cases q : k = p
  · subst q; rw [z_us]; exact h2
  · rw [z_un q]; exact h k hk q
/-- changes of royal coins -/
theorem RPos.royal (h : RPos P B J os op ow oe g qw qe) {q : Nat} (hq : q < P) (hk1 : g (12 + 8 * q) = 1) (e1 : op2.1 = op.1) (e5 : ∀ r : Nat, r ≠ 10 → r ≠ 11 → op2.2 r = op.2 r) (e6 : ∀ k : Nat, k < P → k ≠ q → op2.2 10 k = op.2 10 k ∧ op2.2 11 k = op.2 11 k) (e7 : op2.2 10 q = g2 (102 + 3 * q)) (e8 : g2 (102 + 3 * q) = -1 → op2.2 11 q = g2 (102 + 3 * q + 1)) (f1 : g2 (102 + 3 * q) = -1 ∨ ∃ r : Nat, r < P ∧ g2 (102 + 3 * q) = nI r) (f2 : g2 (102 + 3 * q + 1) = 0 ∨ g2 (102 + 3 * q + 1) = 1) (k : ∀ i : Nat, i ≠ 102 + 3 * q → i ≠ 102 + 3 * q + 1 → g2 i = g i) : RPos P B J os op2 ow oe g2 qw qe := by
  have hP := h.hP
  have hB := h.hB
  obtain ⟨hok, hrs, hrp, hrk, hw, he⟩ := h
  refine ⟨?_, hrs.f hP.2 (fun i hi => k i (by omega) (by omega)), ?_, ?_, hw.f hP.2 (fun i hi => k i (by omega) (by omega)), he.f hP.2 (fun i hi => k i (by omega) (by omega))⟩
  · refine ⟨hok.1.c (k _ (by omega) (by omega)) (k _ (by omega) (by omega)), hok.2.1.c (Nat.le_refl _) (k _ (by omega) (by omega)) (fun p hp => k _ (by omega) (by omega)), hok.2.2.1.c (k _ (by omega) (by omega)) (k _ (by omega) (by omega)), hok.2.2.2.1.c (Nat.le_refl _) (k _ (by omega) (by omega)) (fun p hp => ⟨k _ (by omega) (by omega), k _ (by omega) (by omega), k _ (by omega) (by omega), k _ (by omega) (by omega)⟩), hok.2.2.2.2.1.c (fun p hp => ⟨k _ (by omega) (by omega), k _ (by omega) (by omega)⟩), hok.2.2.2.2.2.1.c (fun p hp => k _ (by omega) (by omega)), ?_, hok.2.2.2.2.2.2.2.c (fun b hb => k _ (by omega) (by omega))⟩
    intro c hc
    by_cases r : c = q
    · subst r
      refine ⟨f1, f2, ?_⟩
      rw [k _ (by omega) (by omega)]
      exact (hok.2.2.2.2.2.2.1 c hc).2.2
    · rw [k _ (by omega) (by omega), k _ (by omega) (by omega), k _ (by omega) (by omega)]
      exact hok.2.2.2.2.2.2.1 c hc
  · obtain ⟨⟨a1, a2, a3, a4, a5⟩, b1, b2, b3, b4, b5⟩ := hrp
    unfold RP
    rw [e1, e5 _ (by omega) (by omega), e5 _ (by omega) (by omega), e5 _ (by omega) (by omega), e5 _ (by omega) (by omega), e5 _ (by omega) (by omega), e5 _ (by omega) (by omega), k 0 (by omega) (by omega), k 1 (by omega) (by omega), k 5 (by omega) (by omega), k 6 (by omega) (by omega), k 7 (by omega) (by omega)]
    refine ⟨⟨a1, a2, a3, a4, a5⟩, fun c hc => ?_, fun c hc => ?_, fun c hc => ?_, fun c hc => ?_, fun c hc => ?_⟩
    · rw [k _ (by omega) (by omega)]; exact b1 c hc
    · rw [k _ (by omega) (by omega)]; exact b2 c hc
    · rw [k _ (by omega) (by omega)]; exact b3 c hc
    · rw [k _ (by omega) (by omega)]; exact b4 c hc
    · rw [k _ (by omega) (by omega)]; exact b5 c hc
  · intro c hc
    rw [k (12 + 8 * c) (by omega) (by omega)]
    by_cases r : c = q
    · subst r
      refine ⟨fun _ => ⟨e7, ?_, e8⟩, fun r => ?_⟩
      · rw [e5 _ (by omega) (by omega), k _ (by omega) (by omega)]
        exact ((hrk c hc).1 hk1).2.1
      · rw [hk1] at r; exact absurd r (by decide)
    · rw [k _ (by omega) (by omega), k _ (by omega) (by omega), k _ (by omega) (by omega), (e6 c hc r).1, (e6 c hc r).2, e5 12 (by omega) (by omega)]
      exact hrk c hc
end DO
