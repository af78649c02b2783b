/-! Each change, class and model. -/
section DO
variable {P B J : Nat} {os op op2 ow oe oB om : ob} {g g2 : Nat → Int32} {qw qe : List Nat}
theorem C_b01 (h : RPos P B J os op ow oe g qw qe) {p : Nat} (hp : p < P) : ∃ b : Nat, b < 2 ∧ g (12 + 8 * p + 1) = nI b := by
  rcases h.b01 hp with e | e
  · exact ⟨0, by omega, e⟩
  · exact ⟨1, by omega, e⟩
theorem C_g4 (h : RPos P B J os op ow oe g qw qe) {b : Nat} (hb : b < 2) : op.2 4 b = g (6 + b) := by
  have e := h.2.2.1.1.2.2.2
  match b, hb with
  | 0, _ => exact e.1
  | 1, _ => exact e.2
theorem RPos.coin (h : RPos P B J os op ow oe g qw qe) {p : Nat} (hp : p < P) (e1 : op2.1 = op.1) (e5 : ∀ r : Nat, r ≠ 4 → r ≠ 6 → op2.2 r = op.2 r) (e6 : ∀ k : Nat, k < P → op2.2 6 k = g2 (12 + 8 * k + 2)) (e4 : ∀ b : Nat, b < 2 → op2.2 4 b = g2 (6 + b)) (k : ∀ i : Nat, i ≠ 6 → i ≠ 7 → i ≠ 12 + 8 * p + 2 → g2 i = g i) : RPos P B J os op2 ow oe g2 qw qe := by
  have hP := h.hP
  obtain ⟨hok, hrs, hrp, hrk, hw, he⟩ := h
  refine ⟨hok.f (Nat.le_refl _) (fun i hi => k i (by omega) (by omega) (by omega)), hrs.f hP.2 (fun i hi => k i (by omega) (by omega) (by omega)), ?_, hrk.f hP.2 ⟨e5 _ (by omega) (by omega), e5 _ (by omega) (by omega), e5 _ (by omega) (by omega)⟩ (fun i hi => k i (by omega) (by omega) (by omega)), hw.f hP.2 (fun i hi => k i (by omega) (by omega) (by omega)), he.f hP.2 (fun i hi => k i (by omega) (by omega) (by omega))⟩
  obtain ⟨⟨a1, a2, a3, a4, a5⟩, b1, b2, b3, b4, b5⟩ := hrp
  refine ⟨⟨?_, ?_, ?_, e4 0 (by omega), e4 1 (by omega)⟩, fun q hq => ?_, e6, fun q hq => ?_, fun q hq => ?_, fun q hq => ?_⟩
  · rw [e1, k _ (by omega) (by omega) (by omega)]; exact a1
  · rw [e1, k _ (by omega) (by omega) (by omega)]; exact a2
  · rw [e1, k _ (by omega) (by omega) (by omega)]; exact a3
  · rw [e5 _ (by omega) (by omega), k _ (by omega) (by omega) (by omega)]; exact b1 q hq
  · rw [e5 _ (by omega) (by omega), k _ (by omega) (by omega) (by omega)]; exact b3 q hq
  · rw [e5 _ (by omega) (by omega), k _ (by omega) (by omega) (by omega)]; exact b4 q hq
  · rw [e5 _ (by omega) (by omega), k _ (by omega) (by omega) (by omega)]; exact b5 q hq
theorem M_moves {p b : Nat} (hp : p < 10) (hb : b < 2) (eb : om.2 1 (12 + 8 * p + 1) = nI b) (y : Int32) : F_X9_moves om (nI p) y = some (om.2 1 (6 + b) + y, (om.1, va_up om.2 1 (upd (upd (om.2 1) (12 + 8 * p + 2) (om.2 1 (12 + 8 * p + 2) - y)) (6 + b) (om.2 1 (6 + b) + y)))) := by
  simp only [F_X9_moves, M_of2 hp, M_lays2 hp, M_of1 hp, Option.bind_some, z_le, z_vs]
  rw [z_un (show 12 + 8 * p + 1 ≠ 12 + 8 * p + 2 by omega), eb, show (6 : Int32) + nI b = nI (6 + b) from nI_add 6 b, z_ald (by omega) (by omega), Option.bind_some, z_ast (by omega) (by omega), Option.bind_some]
  rw [z_un (show 6 + b ≠ 12 + 8 * p + 2 by omega), z_un (show 12 + 8 * p + 1 ≠ 6 + b by omega), z_un (show 12 + 8 * p + 1 ≠ 12 + 8 * p + 2 by omega), eb, show (6 : Int32) + nI b = nI (6 + b) from nI_add 6 b, z_ald (by omega) (by omega), z_us, z_vv]
  rfl
theorem z_upc {f : Nat → Int32} {p P w : Nat} {u : Int32} {g2 : Nat → Int32} (h : ∀ k : Nat, k < P → k ≠ p → f k = g2 (12 + 8 * k + w)) (h2 : u = g2 (12 + 8 * p + w)) : ∀ k : Nat, k < P → upd f p u k = g2 (12 + 8 * k + w) := by
  intro k hk
  by_cases q : k = p
  · subst q; rw [z_us]; exact h2
  · rw [z_un q]; exact h k hk q
theorem DO_0 (h : RPos P B J os op ow oe (om.2 1) qw qe) {p : Nat} (hp : p < P) (y : Int32) : ∃ (v : Int32) (op2 : ob) (g2 : Nat → Int32), F_X2_drop op (nI p) y = some (v, op2) ∧ F_X9_does om 0 (nI p) y = some (v, (om.1, va_up om.2 1 g2)) ∧ RPos P B J os op2 ow oe g2 qw qe := by
  have hP := h.hP
  obtain ⟨b, hb, eb⟩ := C_b01 h hp
  refine ⟨om.2 1 (6 + b) + y, (op.1, va_up (va_up op.2 6 (upd (op.2 6) p (op.2 6 p + -y))) 4 (upd (op.2 4) b (op.2 4 b + y))), upd (upd (om.2 1) (12 + 8 * p + 2) (om.2 1 (12 + 8 * p + 2) - y)) (6 + b) (om.2 1 (6 + b) + y), ?_, ?_, ?_⟩
  rotate_left
  · simp (decide := true) only [F_X9_does, if_true, if_false, M_moves (show p < 10 by omega) hb eb, Option.bind_some]
  · refine h.coin hp rfl (fun r h1 h2 => by simp (disch := omega) only [z_vn]) ?_ (fun c hc => ?_) (fun i h1 h2 h3 => ?_)
    · simp (disch := omega) only [z_vn, z_vs]
      refine z_upc (fun k hk hne => ?_) ?_
      · rw [z_un (by omega), z_un (by omega)]; exact h.pu hk
      · rw [z_un (by omega), z_us, h.pu hp]; grind
    · simp (disch := omega) only [z_vs]
      by_cases q : c = b
      · subst q; rw [z_us, z_us, C_g4 h hb]
      · rw [z_un q, z_un (by omega), z_un (by omega), C_g4 h hc]
    · rw [z_un (by omega), z_un (by omega)]
  · simp only [F_X2_drop, z_le]
    rw [z_at (i := p) (f := op.2 5) (by omega) (by omega), h.bk hp, eb]
    simp (disch := omega) only [z_put, z_at, z_vs, z_vn, z_us, C_g4 h hb]
theorem DO_1 (h : RPos P B J os op ow oe (om.2 1) qw qe) {p : Nat} (hp : p < P) (y : Int32) : ∃ (v : Int32) (op2 : ob) (g2 : Nat → Int32), F_X2_pick op (nI p) y = some (v, op2) ∧ F_X9_does om 1 (nI p) y = some (v, (om.1, va_up om.2 1 g2)) ∧ RPos P B J os op2 ow oe g2 qw qe := by
  have hP := h.hP
  obtain ⟨b, hb, eb⟩ := C_b01 h hp
  refine ⟨op.2 6 p + y, (op.1, va_up (va_up op.2 4 (upd (op.2 4) b (op.2 4 b + -y))) 6 (upd (op.2 6) p (op.2 6 p + y))), upd (upd (om.2 1) (12 + 8 * p + 2) (om.2 1 (12 + 8 * p + 2) - -y)) (6 + b) (om.2 1 (6 + b) + -y), ?_, ?_, ?_⟩
  rotate_left
  · simp (decide := true) only [F_X9_does, if_true, if_false, M_moves (show p < 10 by omega) hb eb, Option.bind_some, M_of2 (show p < 10 by omega), z_vs]
    rw [z_un (show 12 + 8 * p + 2 ≠ 6 + b by omega), z_us, h.pu hp, show om.2 1 (12 + 8 * p + 2) - -y = om.2 1 (12 + 8 * p + 2) + y by grind]
  · refine h.coin hp rfl (fun r h1 h2 => by simp (disch := omega) only [z_vn]) ?_ (fun c hc => ?_) (fun i h1 h2 h3 => ?_)
    · simp (disch := omega) only [z_vs]
      refine z_upc (fun k hk hne => ?_) ?_
      · rw [z_un (by omega), z_un (by omega)]; exact h.pu hk
      · rw [z_un (by omega), z_us, h.pu hp]; grind
    · simp (disch := omega) only [z_vn, z_vs]
      by_cases q : c = b
      · subst q; rw [z_us, z_us, C_g4 h hb]
      · rw [z_un q, z_un (by omega), z_un (by omega), C_g4 h hc]
    · rw [z_un (by omega), z_un (by omega)]
  · simp only [F_X2_pick, z_le]
    rw [z_at (i := p) (f := op.2 5) (by omega) (by omega), h.bk hp, eb]
    simp (disch := omega) only [z_put, z_at, z_vs, z_vn, z_us]
/-- changes of royal coins -/
theorem RPos.royal (h : RPos P B J os op ow oe g qw qe) {q : Nat} (hq : q < P) (hk1 : g (12 + 8 * q) = 1) (e1 : op2.1 = op.1) (e5 : ∀ r : Nat, r ≠ 10 → r ≠ 11 → op2.2 r = op.2 r) (e6 : ∀ k : Nat, k < P → k ≠ q → op2.2 10 k = op.2 10 k ∧ op2.2 11 k = op.2 11 k) (e7 : op2.2 10 q = g2 (102 + 3 * q)) (e8 : g2 (102 + 3 * q) = -1 → op2.2 11 q = g2 (102 + 3 * q + 1)) (f1 : g2 (102 + 3 * q) = -1 ∨ ∃ r : Nat, r < P ∧ g2 (102 + 3 * q) = nI r) (f2 : g2 (102 + 3 * q + 1) = 0 ∨ g2 (102 + 3 * q + 1) = 1) (k : ∀ i : Nat, i ≠ 102 + 3 * q → i ≠ 102 + 3 * q + 1 → g2 i = g i) : RPos P B J os op2 ow oe g2 qw qe := by
  have hP := h.hP
  have hB := h.hB
  obtain ⟨hok, hrs, hrp, hrk, hw, he⟩ := h
  refine ⟨?_, hrs.f hP.2 (fun i hi => k i (by omega) (by omega)), ?_, ?_, hw.f hP.2 (fun i hi => k i (by omega) (by omega)), he.f hP.2 (fun i hi => k i (by omega) (by omega))⟩
  · refine ⟨hok.1.c (k _ (by omega) (by omega)) (k _ (by omega) (by omega)), hok.2.1.c (Nat.le_refl _) (k _ (by omega) (by omega)) (fun p hp => k _ (by omega) (by omega)), hok.2.2.1.c (k _ (by omega) (by omega)) (k _ (by omega) (by omega)), hok.2.2.2.1.c (Nat.le_refl _) (k _ (by omega) (by omega)) (fun p hp => ⟨k _ (by omega) (by omega), k _ (by omega) (by omega), k _ (by omega) (by omega), k _ (by omega) (by omega)⟩), hok.2.2.2.2.1.c (fun p hp => ⟨k _ (by omega) (by omega), k _ (by omega) (by omega)⟩), hok.2.2.2.2.2.1.c (fun p hp => k _ (by omega) (by omega)), ?_, hok.2.2.2.2.2.2.2.c (fun b hb => k _ (by omega) (by omega))⟩
    intro c hc
    by_cases r : c = q
    · subst r
      refine ⟨f1, f2, ?_⟩
      rw [k _ (by omega) (by omega)]
      exact (hok.2.2.2.2.2.2.1 c hc).2.2
    · rw [k _ (by omega) (by omega), k _ (by omega) (by omega), k _ (by omega) (by omega)]
      exact hok.2.2.2.2.2.2.1 c hc
  · obtain ⟨⟨a1, a2, a3, a4, a5⟩, b1, b2, b3, b4, b5⟩ := hrp
    unfold RP
    rw [e1, e5 _ (by omega) (by omega), e5 _ (by omega) (by omega), e5 _ (by omega) (by omega), e5 _ (by omega) (by omega), e5 _ (by omega) (by omega), e5 _ (by omega) (by omega), k 0 (by omega) (by omega), k 1 (by omega) (by omega), k 5 (by omega) (by omega), k 6 (by omega) (by omega), k 7 (by omega) (by omega)]
    refine ⟨⟨a1, a2, a3, a4, a5⟩, fun c hc => ?_, fun c hc => ?_, fun c hc => ?_, fun c hc => ?_, fun c hc => ?_⟩
    · rw [k _ (by omega) (by omega)]; exact b1 c hc
    · rw [k _ (by omega) (by omega)]; exact b2 c hc
    · rw [k _ (by omega) (by omega)]; exact b3 c hc
    · rw [k _ (by omega) (by omega)]; exact b4 c hc
    · rw [k _ (by omega) (by omega)]; exact b5 c hc
  · intro c hc
    rw [k (12 + 8 * c) (by omega) (by omega)]
    by_cases r : c = q
    · subst r
      refine ⟨fun _ => ⟨e7, ?_, e8⟩, fun r => ?_⟩
      · rw [e5 _ (by omega) (by omega), k _ (by omega) (by omega)]
        exact ((hrk c hc).1 hk1).2.1
      · rw [hk1] at r; exact absurd r (by decide)
    · rw [k _ (by omega) (by omega), k _ (by omega) (by omega), k _ (by omega) (by omega), (e6 c hc r).1, (e6 c hc r).2, e5 12 (by omega) (by omega)]
      exact hrk c hc
theorem z_roy (key : RPos P B J os op ow oe g qw qe) {p : Nat} (hp : p < P) : ∃ v : Int32, F_X2_royalCoinsOf op os (nI p) = some v ∧ F_X9_royalsOf (om.1, va_up om.2 1 g) (nI p) = some v := by
  have r2 := M_royals (om := (om.1, va_up om.2 1 g)) (p := p) key.hP key.hB (by simp only [z_vs]; exact key.h8) (by simp only [z_vs]; exact key.h9)
  simp only [z_vs] at r2
  exact ⟨_, C_royals key hp, r2⟩
theorem DO_2 (h : RPos P B J os op ow oe (om.2 1) qw qe) {p q : Nat} (hp : p < P) (hq : q < P) (hk : om.2 1 (12 + 8 * q) = 1) : ∃ (v : Int32) (op2 : ob) (g2 : Nat → Int32), F_X2_lay op os (nI p) (nI q) = some (v, op2) ∧ F_X9_does om 2 (nI p) (nI q) = some (v, (om.1, va_up om.2 1 g2)) ∧ RPos P B J os op2 ow oe g2 qw qe := by
  have hP := h.hP
  have key : RPos P B J os (op.1, va_up (va_up op.2 10 (upd (op.2 10) q (-1))) 11 (upd (op.2 11) q (om.2 1 (12 + 8 * p + 1)))) ow oe (upd (upd (om.2 1) (102 + 3 * q) (-1)) (102 + 3 * q + 1) (om.2 1 (12 + 8 * p + 1))) qw qe := by
    refine h.royal hq hk rfl (fun r h1 h2 => by simp (disch := omega) only [z_vn]) (fun c hc hne => ?_) ?_ ?_ ?_ ?_ (fun i h1 h2 => ?_)
    · simp (disch := omega) only [z_vn, z_vs, z_un]
      exact ⟨trivial, trivial⟩
    · simp (disch := omega) only [z_vn, z_vs, z_us, z_un]
    · intro _
      simp (disch := omega) only [z_vs, z_us]
    · simp (disch := omega) only [z_us, z_un]
      exact Or.inl trivial
    · simp (disch := omega) only [z_us]
      exact h.b01 hp
    · rw [z_un h2, z_un h1]
  obtain ⟨v, r1, r2⟩ := z_roy (om := om) key hp
  refine ⟨v, _, _, ?_, ?_, key⟩
  rotate_left
  · simp (decide := true) only [F_X9_does, if_true, if_false, F_X9_laysDown, M_laysR0 (show q < 10 by omega), M_laysR1 (show q < 10 by omega), M_of1 (show p < 10 by omega), Option.bind_some, z_vs, z_vv]
    rw [z_un (show 12 + 8 * p + 1 ≠ 102 + 3 * q by omega), r2]
    rfl
  · simp only [F_X2_lay, z_le]
    rw [z_at (i := p) (by omega) (by omega), z_vn (by omega), z_put (by omega) (by omega), z_vn (by omega), z_put (by omega) (by omega), h.bk hp, r1]
    rfl
theorem DO_3 (h : RPos P B J os op ow oe (om.2 1) qw qe) {p q : Nat} (hp : p < P) (hq : q < P) (hk : om.2 1 (12 + 8 * q) = 1) : ∃ (v : Int32) (op2 : ob) (g2 : Nat → Int32), F_X2_lift op os (nI p) (nI q) = some (v, op2) ∧ F_X9_does om 3 (nI p) (nI q) = some (v, (om.1, va_up om.2 1 g2)) ∧ RPos P B J os op2 ow oe g2 qw qe := by
  have hP := h.hP
  have key : RPos P B J os (op.1, va_up op.2 10 (upd (op.2 10) q (nI p))) ow oe (upd (om.2 1) (102 + 3 * q) (nI p)) qw qe := by
    refine h.royal hq hk rfl (fun r h1 h2 => by simp (disch := omega) only [z_vn]) (fun c hc hne => ?_) ?_ ?_ ?_ ?_ (fun i h1 h2 => ?_)
    · simp (disch := omega) only [z_vn, z_vs, z_un]
      exact ⟨trivial, trivial⟩
    · simp (disch := omega) only [z_vs, z_us]
    · simp (disch := omega) only [z_us]
      intro e
      exact absurd e (z_m1 (by omega))
    · simp (disch := omega) only [z_us]
      exact Or.inr ⟨p, hp, rfl⟩
    · simp (disch := omega) only [z_un]
      exact (h.1.2.2.2.2.2.2.1 q hq).2.1
    · rw [z_un h1]
  obtain ⟨v, r1, r2⟩ := z_roy (om := om) key hp
  refine ⟨v, _, _, ?_, ?_, key⟩
  rotate_left
  · simp (decide := true) only [F_X9_does, if_true, if_false, F_X9_lifts, M_laysR0 (show q < 10 by omega), Option.bind_some]
    rw [r2]
    rfl
  · simp only [F_X2_lift, z_le]
    rw [z_put (by omega) (by omega), r1]
    rfl
theorem DO_4 (h : RPos P B J os op ow oe (om.2 1) qw qe) {p q : Nat} (hp : p < P) (hq : q < P) (hne : p ≠ q) : ∃ (v : Int32) (op2 : ob) (g2 : Nat → Int32), F_X2_swap op (nI p) (nI q) = some (v, op2) ∧ F_X9_does om 4 (nI p) (nI q) = some (v, (om.1, va_up om.2 1 g2)) ∧ RPos P B J os op2 ow oe g2 qw qe := by
  have hP := h.hP
  have hB := h.hB
  refine ⟨om.2 1 (12 + 8 * q + 4), (op.1, va_up op.2 8 (upd (upd (op.2 8) p (om.2 1 (12 + 8 * q + 4))) q (om.2 1 (12 + 8 * p + 4)))), upd (upd (om.2 1) (12 + 8 * p + 4) (om.2 1 (12 + 8 * q + 4))) (12 + 8 * q + 4) (om.2 1 (12 + 8 * p + 4)), ?_, ?_, ?_⟩
  · simp only [F_X2_swap, z_le]
    rw [z_at (i := p) (f := op.2 8) (by omega) (by omega), z_at (i := q) (f := op.2 8) (by omega) (by omega)]
    simp (disch := omega) only [z_put, z_at, z_vs, z_vn, z_us, z_un, z_vv, h.wo hp, h.wo hq]
  · simp (decide := true) only [F_X9_does, if_true, if_false, F_X9_swaps, M_of4 (show p < 10 by omega), M_of4 (show q < 10 by omega), M_lays4 (show p < 10 by omega), M_lays4 (show q < 10 by omega), Option.bind_some, z_vs, z_vv]
    rw [z_un (show 12 + 8 * p + 4 ≠ 12 + 8 * q + 4 by omega), z_us]
  · have k : ∀ i : Nat, i ≠ 12 + 8 * p + 4 → i ≠ 12 + 8 * q + 4 → upd (upd (om.2 1) (12 + 8 * p + 4) (om.2 1 (12 + 8 * q + 4))) (12 + 8 * q + 4) (om.2 1 (12 + 8 * p + 4)) i = om.2 1 i := fun i h1 h2 => by rw [z_un h2, z_un h1]
    have kp : upd (upd (om.2 1) (12 + 8 * p + 4) (om.2 1 (12 + 8 * q + 4))) (12 + 8 * q + 4) (om.2 1 (12 + 8 * p + 4)) (12 + 8 * p + 4) = om.2 1 (12 + 8 * q + 4) := by rw [z_un (by omega), z_us]
    have kq : upd (upd (om.2 1) (12 + 8 * p + 4) (om.2 1 (12 + 8 * q + 4))) (12 + 8 * q + 4) (om.2 1 (12 + 8 * p + 4)) (12 + 8 * q + 4) = om.2 1 (12 + 8 * p + 4) := by rw [z_us]
    generalize upd (upd (om.2 1) (12 + 8 * p + 4) (om.2 1 (12 + 8 * q + 4))) (12 + 8 * q + 4) (om.2 1 (12 + 8 * p + 4)) = g2 at k kp kq
    obtain ⟨hok, hrs, hrp, hrk, hw, he⟩ := h
    refine ⟨?_, hrs.f hP.2 (fun i hi => k i (by omega) (by omega)), ?_, hrk.f hP.2 ⟨by simp (disch := omega) only [z_vn], by simp (disch := omega) only [z_vn], by simp (disch := omega) only [z_vn]⟩ (fun i hi => k i (by omega) (by omega)), hw.f hP.2 (fun i hi => k i (by omega) (by omega)), he.f hP.2 (fun i hi => k i (by omega) (by omega))⟩
    · refine ⟨hok.1.c (k _ (by omega) (by omega)) (k _ (by omega) (by omega)), hok.2.1.c (Nat.le_refl _) (k _ (by omega) (by omega)) (fun p hp => k _ (by omega) (by omega)), hok.2.2.1.c (k _ (by omega) (by omega)) (k _ (by omega) (by omega)), hok.2.2.2.1.c (Nat.le_refl _) (k _ (by omega) (by omega)) (fun p hp => ⟨k _ (by omega) (by omega), k _ (by omega) (by omega), k _ (by omega) (by omega), k _ (by omega) (by omega)⟩), hok.2.2.2.2.1.c (fun p hp => ⟨k _ (by omega) (by omega), k _ (by omega) (by omega)⟩), ?_, hok.2.2.2.2.2.2.1.c (fun c hc => ⟨k _ (by omega) (by omega), k _ (by omega) (by omega), k _ (by omega) (by omega)⟩), hok.2.2.2.2.2.2.2.c (fun b hb => k _ (by omega) (by omega))⟩
      have hw := hok.2.2.2.2.2.1
      refine ⟨fun c hc => ?_, fun r hr => ?_⟩
      · by_cases r1 : c = p
        · subst r1; rw [kp]; exact hw.1 q hq
        · by_cases r2 : c = q
          · subst r2; rw [kq]; exact hw.1 p hp
          · rw [k _ (by omega) (by omega)]; exact hw.1 c hc
      · obtain ⟨c, hc, ec⟩ := hw.2 r hr
        by_cases r1 : c = p
        · subst r1; exact ⟨q, hq, kq.trans ec⟩
        · by_cases r2 : c = q
          · subst r2; exact ⟨p, hp, kp.trans ec⟩
          · exact ⟨c, hc, (k _ (by omega) (by omega)).trans ec⟩
    · obtain ⟨⟨a1, a2, a3, a4, a5⟩, b1, b2, b3, b4, b5⟩ := hrp
      refine ⟨⟨?_, ?_, ?_, ?_, ?_⟩, fun c hc => ?_, fun c hc => ?_, fun c hc => ?_, fun c hc => ?_, fun c hc => ?_⟩
      · rw [k _ (by omega) (by omega)]; exact a1
      · rw [k _ (by omega) (by omega)]; exact a2
      · rw [k _ (by omega) (by omega)]; exact a3
      · dsimp only; rw [z_vn (by omega), k _ (by omega) (by omega)]; exact a4
      · dsimp only; rw [z_vn (by omega), k _ (by omega) (by omega)]; exact a5
      · dsimp only; rw [z_vn (by omega), k _ (by omega) (by omega)]; exact b1 c hc
      · dsimp only; rw [z_vn (by omega), k _ (by omega) (by omega)]; exact b2 c hc
      · dsimp only; rw [z_vn (by omega), k _ (by omega) (by omega)]; exact b3 c hc
      · dsimp only; rw [z_vs]
        by_cases r2 : c = q
        · subst r2; rw [z_us, kq]
        · rw [z_un r2]
          by_cases r1 : c = p
          · subst r1; rw [z_us, kp]
          · rw [z_un r1, k _ (by omega) (by omega)]; exact b4 c hc
      · dsimp only; rw [z_vn (by omega), k _ (by omega) (by omega)]; exact b5 c hc
theorem DO_7 (h : RPos P B J os op ow oe (om.2 1) qw qe) {p : Nat} (hp : p < P) (y : Int32) : ∃ (v : Int32) (op2 : ob) (g2 : Nat → Int32), F_X2_changePride op (nI p) y = some (v, op2) ∧ F_X9_does om 7 (nI p) y = some (v, (om.1, va_up om.2 1 g2)) ∧ RPos P B J os op2 ow oe g2 qw qe := by
  have hP := h.hP
  refine ⟨om.2 1 (12 + 8 * p + 3), (op.1, va_up op.2 7 (upd (op.2 7) p y)), upd (om.2 1) (12 + 8 * p + 3) y, ?_, ?_, ?_⟩
  · simp only [F_X2_changePride, z_le]
    rw [z_at (i := p) (by omega) (by omega), z_put (by omega) (by omega), h.pr hp]
  · simp (decide := true) only [F_X9_does, if_true, if_false, F_X9_becomesProud, M_of3 (show p < 10 by omega), M_lays3 (show p < 10 by omega), Option.bind_some]
  · have k : ∀ i : Nat, i ≠ 12 + 8 * p + 3 → upd (om.2 1) (12 + 8 * p + 3) y i = om.2 1 i := fun i h1 => by rw [z_un h1]
    obtain ⟨hok, hrs, hrp, hrk, hw, he⟩ := h
    refine ⟨hok.f (Nat.le_refl _) (fun i hi => k i (by omega)), hrs.f hP.2 (fun i hi => k i (by omega)), ?_, hrk.f hP.2 ⟨by simp (disch := omega) only [z_vn], by simp (disch := omega) only [z_vn], by simp (disch := omega) only [z_vn]⟩ (fun i hi => k i (by omega)), hw.f hP.2 (fun i hi => k i (by omega)), he.f hP.2 (fun i hi => k i (by omega))⟩
    obtain ⟨⟨a1, a2, a3, a4, a5⟩, b1, b2, b3, b4, b5⟩ := hrp
    refine ⟨⟨?_, ?_, ?_, ?_, ?_⟩, fun c hc => ?_, fun c hc => ?_, ?_, fun c hc => ?_, fun c hc => ?_⟩
    · rw [k _ (by omega)]; exact a1
    · rw [k _ (by omega)]; exact a2
    · rw [k _ (by omega)]; exact a3
    · dsimp only; rw [z_vn (by omega), k _ (by omega)]; exact a4
    · dsimp only; rw [z_vn (by omega), k _ (by omega)]; exact a5
    · dsimp only; rw [z_vn (by omega), k _ (by omega)]; exact b1 c hc
    · dsimp only; rw [z_vn (by omega), k _ (by omega)]; exact b2 c hc
    · dsimp only; rw [z_vs]
      exact z_upc (fun c hc hne => by rw [z_un (by omega)]; exact b3 c hc) (by rw [z_us])
    · dsimp only; rw [z_vn (by omega), k _ (by omega)]; exact b4 c hc
    · dsimp only; rw [z_vn (by omega), k _ (by omega)]; exact b5 c hc
end DO
