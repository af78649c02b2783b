/-! A game that is read: what its setting holds, the position it begins with. -/
def LD (p b : Nat) (od : ob) (g : Nat → Int32) : Prop :=
  (od.1 0 = g 1 ∧ od.1 1 = g 2 ∧ od.1 2 = g 3 ∧ od.1 3 = g 4 ∧ od.1 4 = nI p ∧ od.1 5 = nI b ∧ g 8 = nI p ∧ g 9 = nI b ∧ p ≤ 10 ∧ b ≤ 4) ∧ (gL g ∧ g 0 = 0 ∧ g 5 = 0 ∧ g 6 = 0 ∧ g 7 = 0 ∧ g 11 = 0 ∧ g 10 = z_sum (od.2 8) p) ∧
  (∀ q : Nat, q < p → od.2 6 q = g (12 + 8 * q) ∧ (g (12 + 8 * q) = 0 ∨ g (12 + 8 * q) = 1) ∧ od.2 7 q = g (12 + 8 * q + 1) ∧ (g (12 + 8 * q + 1) = 0 ∨ g (12 + 8 * q + 1) = 1) ∧ od.2 8 q = g (12 + 8 * q + 2) ∧ od.2 9 q = g (12 + 8 * q + 3) ∧ g (12 + 8 * q + 4) = nI q ∧ od.2 10 q = g (92 + q) ∧ g (102 + 3 * q) = nI q) ∧
  (∀ q : Nat, q < 10 → g (12 + 8 * q + 5) = 0 ∧ g (12 + 8 * q + 6) = 0 ∧ g (12 + 8 * q + 7) = 0 ∧ g (102 + 3 * q + 1) = 0 ∧ g (102 + 3 * q + 2) = 0) ∧
  ∀ c : Nat, c < b → od.2 11 c = g (132 + 3 * c) ∧ od.2 12 c = g (132 + 3 * c + 1) ∧ od.2 13 c = g (132 + 3 * c + 2) ∧ ∃ w : Nat, 1 ≤ w ∧ w ≤ 9 ∧ g (132 + 3 * c) = nI w
section LOAD
variable {ot od ot2 od2 ot3 os op ow oe : ob} {E n s p b P B : Nat} {g g2 : Nat → Int32}
/-- one more person, in the rows -/
theorem LD.person (h : LD p b od g) (hb : b = 0) (hp : p < 10) {x1 x2 x3 x4 x5 : Int32} (k1 : x1 = 0 ∨ x1 = 1) (k2 : x2 = 0 ∨ x2 = 1) (e0 : g2 (12 + 8 * p) = x1) (e1 : g2 (12 + 8 * p + 1) = x2) (e2 : g2 (12 + 8 * p + 2) = x3) (e3 : g2 (12 + 8 * p + 3) = x4) (e4 : g2 (12 + 8 * p + 4) = nI p) (e5 : g2 (92 + p) = x5) (e6 : g2 (102 + 3 * p) = nI p) (e8 : g2 8 = nI (p + 1)) (e10 : g2 10 = g 10 + x3) (k : ∀ i : Nat, i ≠ 8 → i ≠ 10 → (i < 12 + 8 * p ∨ 12 + 8 * p + 4 < i) → i ≠ 92 + p → i ≠ 102 + 3 * p → g2 i = g i) :
    ∃ od2 : ob, F_X5_addPerson od x1 x2 x3 x4 x5 = some od2 ∧ LD (p + 1) b od2 g2 := by
  subst hb
  obtain ⟨⟨a0, a1, a2, a3, a4, a5, a8, a9, ap, ab⟩, ⟨hl, z0, z5, z6, z7, z11, z10⟩, hpp, hz, hbb⟩ := h
  have kk : ∀ i : Nat, i < 8 ∨ i = 9 ∨ i = 11 → g2 i = g i := fun i hi => k i (by omega) (by omega) (by omega) (by omega) (by omega)
  refine ⟨(upd od.1 4 (nI (p + 1)), va_up (va_up (va_up (va_up (va_up od.2 6 (upd (od.2 6) p x1)) 7 (upd (od.2 7) p x2)) 8 (upd (od.2 8) p x3)) 9 (upd (od.2 9) p x4)) 10 (upd (od.2 10) p x5)), ?_, ⟨?_, ?_, ?_, ?_, fun c hc => by omega⟩⟩
  · simp only [F_X5_addPerson, z_leN, a4]
    simp (disch := omega) only [z_put, z_vn, nI_1]
  · refine ⟨?_, ?_, ?_, ?_, ?_, ?_, e8, ?_, by omega, ab⟩
    · dsimp only; rw [z_un (by omega), kk 1 (by omega)]; exact a0
    · dsimp only; rw [z_un (by omega), kk 2 (by omega)]; exact a1
    · dsimp only; rw [z_un (by omega), kk 3 (by omega)]; exact a2
    · dsimp only; rw [z_un (by omega), kk 4 (by omega)]; exact a3
    · dsimp only; rw [z_us]
    · dsimp only; rw [z_un (by omega)]; exact a5
    · rw [kk 9 (by omega)]; exact a9
  · refine ⟨hl.c (kk 1 (by omega)) (kk 2 (by omega)), (kk 0 (by omega)).trans z0, (kk 5 (by omega)).trans z5, (kk 6 (by omega)).trans z6, (kk 7 (by omega)).trans z7, (kk 11 (by omega)).trans z11, ?_⟩
    dsimp only
    rw [e10, z10, z_vn (by omega), z_vn (by omega), z_vs, z_sum, z_us]
    congr 1
    exact z_sum_congr (fun c hc => by rw [z_un (by omega)])
  · intro q hq
    by_cases r : q = p
    · subst r
      rw [e0, e1, e2, e3, e4, e5, e6]
      simp (disch := omega) only [z_vn, z_vs, z_us]
      exact ⟨trivial, k1, trivial, k2, trivial, trivial, trivial, trivial, trivial⟩
    · have := hpp q (by omega)
      rw [k (12 + 8 * q) (by omega) (by omega) (by omega) (by omega) (by omega), k (12 + 8 * q + 1) (by omega) (by omega) (by omega) (by omega) (by omega), k (12 + 8 * q + 2) (by omega) (by omega) (by omega) (by omega) (by omega), k (12 + 8 * q + 3) (by omega) (by omega) (by omega) (by omega) (by omega), k (12 + 8 * q + 4) (by omega) (by omega) (by omega) (by omega) (by omega), k (92 + q) (by omega) (by omega) (by omega) (by omega) (by omega), k (102 + 3 * q) (by omega) (by omega) (by omega) (by omega) (by omega)]
      simp (disch := omega) only [z_vn, z_vs, z_un]
      exact this
  · intro q hq
    have := hz q hq
    rw [k (12 + 8 * q + 5) (by omega) (by omega) (by omega) (by omega) (by omega), k (12 + 8 * q + 6) (by omega) (by omega) (by omega) (by omega) (by omega), k (12 + 8 * q + 7) (by omega) (by omega) (by omega) (by omega) (by omega), k (102 + 3 * q + 1) (by omega) (by omega) (by omega) (by omega) (by omega), k (102 + 3 * q + 2) (by omega) (by omega) (by omega) (by omega) (by omega)]
    exact this
/-- one more bridge -/
theorem LD.bridge (h : LD p b od g) (hb : b < 4) {x1 x2 x3 : Int32} (k1 : ∃ w : Nat, 1 ≤ w ∧ w ≤ 9 ∧ x1 = nI w) (e0 : g2 (132 + 3 * b) = x1) (e1 : g2 (132 + 3 * b + 1) = x2) (e2 : g2 (132 + 3 * b + 2) = x3) (e9 : g2 9 = nI (b + 1)) (k : ∀ i : Nat, i ≠ 9 → (i < 132 + 3 * b ∨ 132 + 3 * b + 2 < i) → g2 i = g i) : ∃ od2 : ob, F_X5_addBridge od x1 x2 x3 = some od2 ∧ LD p (b + 1) od2 g2 := by
  obtain ⟨⟨a0, a1, a2, a3, a4, a5, a8, a9, ap, ab⟩, ⟨hl, z0, z5, z6, z7, z11, z10⟩, hpp, hz, hbb⟩ := h
  have kk : ∀ i : Nat, i < 132 → i ≠ 9 → g2 i = g i := fun i hi h9 => k i h9 (by omega)
  refine ⟨(upd od.1 5 (nI (b + 1)), va_up (va_up (va_up od.2 11 (upd (od.2 11) b x1)) 12 (upd (od.2 12) b x2)) 13 (upd (od.2 13) b x3)), ?_, ⟨?_, ?_, ?_, ?_, fun c hc => ?_⟩⟩
  · simp only [F_X5_addBridge, z_leN, a5]
    simp (disch := omega) only [z_put, z_vn, nI_1]
  · refine ⟨?_, ?_, ?_, ?_, ?_, ?_, ?_, e9, ap, by omega⟩
    · dsimp only; rw [z_un (by omega), kk 1 (by omega) (by omega)]; exact a0
    · dsimp only; rw [z_un (by omega), kk 2 (by omega) (by omega)]; exact a1
    · dsimp only; rw [z_un (by omega), kk 3 (by omega) (by omega)]; exact a2
    · dsimp only; rw [z_un (by omega), kk 4 (by omega) (by omega)]; exact a3
    · dsimp only; rw [z_un (by omega)]; exact a4
    · dsimp only; rw [z_us]
    · rw [kk 8 (by omega) (by omega)]; exact a8
  · refine ⟨hl.c (kk 1 (by omega) (by omega)) (kk 2 (by omega) (by omega)), (kk 0 (by omega) (by omega)).trans z0, (kk 5 (by omega) (by omega)).trans z5, (kk 6 (by omega) (by omega)).trans z6, (kk 7 (by omega) (by omega)).trans z7, (kk 11 (by omega) (by omega)).trans z11, ?_⟩
    dsimp only
    rw [kk 10 (by omega) (by omega), z10, z_vn (by omega), z_vn (by omega), z_vn (by omega)]
  · intro q hq
    have := hpp q hq
    rw [kk (12 + 8 * q) (by omega) (by omega), kk (12 + 8 * q + 1) (by omega) (by omega), kk (12 + 8 * q + 2) (by omega) (by omega), kk (12 + 8 * q + 3) (by omega) (by omega), kk (12 + 8 * q + 4) (by omega) (by omega), kk (92 + q) (by omega) (by omega), kk (102 + 3 * q) (by omega) (by omega)]
    simp (disch := omega) only [z_vn]
    exact this
  · intro q hq
    have := hz q hq
    rw [kk (12 + 8 * q + 5) (by omega) (by omega), kk (12 + 8 * q + 6) (by omega) (by omega), kk (12 + 8 * q + 7) (by omega) (by omega), kk (102 + 3 * q + 1) (by omega) (by omega), kk (102 + 3 * q + 2) (by omega) (by omega)]
    exact this
  · by_cases r : c = b
    · subst r
      rw [e0, e1, e2]
      simp (disch := omega) only [z_vn, z_vs, z_us]
      exact ⟨trivial, trivial, trivial, k1⟩
    · rw [k (132 + 3 * c) (by omega) (by omega), k (132 + 3 * c + 1) (by omega) (by omega), k (132 + 3 * c + 2) (by omega) (by omega)]
      simp (disch := omega) only [z_vn, z_vs, z_un]
      exact hbb c (by omega)
/-- a game begins -/
theorem B_113 {kv : Nat → Int32} (hk : ∀ i : Nat, i < 10 → F_X5_hasKing os (nI i) = some (kv i)) : ∀ (d k fu : Nat) (op : ob), k + d = 10 → d < fu → (∀ i : Nat, i < k → op.2 8 i = nI i ∧ op.2 9 i = 0 ∧ op.2 10 i = (if kv i = 0 then -1 else nI i) ∧ op.2 12 i = 0) → ∃ (x : Int32) (op2 : ob), F_X2_begin_113 os fu op ow oe (nI k) = some (x, op2, ow, oe) ∧ op2.1 = op.1 ∧ (∀ r : Nat, r ≠ 8 → r ≠ 9 → r ≠ 10 → r ≠ 12 → op2.2 r = op.2 r) ∧ ∀ i : Nat, i < 10 → op2.2 8 i = nI i ∧ op2.2 9 i = 0 ∧ op2.2 10 i = (if kv i = 0 then -1 else nI i) ∧ op2.2 12 i = 0 := by
  intro d
  induction d with
  | zero =>
    intro k fu op h1 h2 h
    obtain ⟨fu, rfl⟩ : ∃ q, fu = q + 1 := ⟨fu - 1, by omega⟩
    obtain rfl : k = 10 := by omega
    refine ⟨nI 10, op, ?_, rfl, fun r _ _ _ _ => rfl, h⟩
    rw [F_X2_begin_113]
    rw [if_pos (by decide)]
  | succ d ih =>
    intro k fu op h1 h2 h
    obtain ⟨fu, rfl⟩ : ∃ q, fu = q + 1 := ⟨fu - 1, by omega⟩
    have k10 : ¬ (10 : Int32) ≤ nI k := nI_ge (a := k) (b := 10) (by omega) (by omega)
    have hst : F_X2_begin_113 os (fu + 1) op ow oe (nI k) = F_X2_begin_113 os fu (op.1, va_up (va_up (va_up (va_up op.2 8 (upd (op.2 8) k (nI k))) 9 (upd (op.2 9) k 0)) 10 (upd (op.2 10) k (if kv k = 0 then -1 else nI k))) 12 (upd (op.2 12) k 0)) ow oe (nI (k + 1)) := by
      rw [F_X2_begin_113]
      simp only [hk k (by omega), z_bsN, z_leN, nI_1]
      rw [if_neg k10]
      by_cases q : kv k = 0
      · rw [if_pos q, if_pos q]
        simp (disch := omega) only [z_put, z_vn, z_vs]
      · rw [if_neg q, if_neg q]
        simp (disch := omega) only [z_put, z_vn, z_vs]
    rw [hst]
    obtain ⟨x, op2, s1, s2, s3, s4⟩ := ih (k + 1) fu (op.1, va_up (va_up (va_up (va_up op.2 8 (upd (op.2 8) k (nI k))) 9 (upd (op.2 9) k 0)) 10 (upd (op.2 10) k (if kv k = 0 then -1 else nI k))) 12 (upd (op.2 12) k 0)) (by omega) (by omega) (fun i hi => by
      by_cases r : i = k
      · subst r
        simp (disch := omega) only [z_vn, z_vs, z_us]
        exact ⟨trivial, trivial, trivial, trivial⟩
      · simp (disch := omega) only [z_vn, z_vs, z_un]
        exact h i (by omega))
    refine ⟨x, op2, s1, s2, fun r r8 r9 r10 r12 => ?_, s4⟩
    rw [s3 r r8 r9 r10 r12]
    dsimp only
    rw [z_vn r12, z_vn r10, z_vn r9, z_vn r8]
theorem LD.cong (h : LD P B od g) (k1 : ∀ i : Nat, i < 6 → os.1 i = od.1 i) (k2 : ∀ r i : Nat, 6 ≤ r → r ≤ 10 → i < P → os.2 r i = od.2 r i) (k3 : ∀ r i : Nat, 11 ≤ r → r ≤ 13 → i < B → os.2 r i = od.2 r i) : LD P B os g := by
  obtain ⟨⟨a0, a1, a2, a3, a4, a5, a8, a9, ap, ab⟩, ⟨hl, z0, z5, z6, z7, z11, z10⟩, hpp, hz, hbb⟩ := h
  refine ⟨⟨(k1 _ (by omega)).trans a0, (k1 _ (by omega)).trans a1, (k1 _ (by omega)).trans a2, (k1 _ (by omega)).trans a3, (k1 _ (by omega)).trans a4, (k1 _ (by omega)).trans a5, a8, a9, ap, ab⟩, ⟨hl, z0, z5, z6, z7, z11, ?_⟩, fun q hq => ?_, hz, fun c hc => ?_⟩
  · rw [z10]; exact z_sum_congr (fun c hc => (k2 8 c (by omega) (by omega) hc).symm)
  · rw [k2 6 q (by omega) (by omega) hq, k2 7 q (by omega) (by omega) hq, k2 8 q (by omega) (by omega) hq, k2 9 q (by omega) (by omega) hq, k2 10 q (by omega) (by omega) hq]
    exact hpp q hq
  · rw [k3 11 c (by omega) (by omega) hc, k3 12 c (by omega) (by omega) hc, k3 13 c (by omega) (by omega) hc]
    exact hbb c hc
theorem C_copyS (h : LD P B od g) : ∃ y : ob, F_X5_copyFrom os od = some y ∧ LD P B y g := by
  have hP := h.1.2.2.2.2.2.2.2.2
  simp only [F_X5_copyFrom, z_leN]
  refine ⟨_, rfl, h.cong (fun i hi => ?_) (fun r i h1 h2 hi => ?_) (fun r i h1 h2 hi => ?_)⟩
  · have : i = 0 ∨ i = 1 ∨ i = 2 ∨ i = 3 ∨ i = 4 ∨ i = 5 := by omega
    rcases this with rfl | rfl | rfl | rfl | rfl | rfl <;> simp (disch := omega) only [z_us, z_un]
  · have : r = 6 ∨ r = 7 ∨ r = 8 ∨ r = 9 ∨ r = 10 := by omega
    rcases this with rfl | rfl | rfl | rfl | rfl <;> simp (disch := omega) only [z_vs, z_vn, z_rcp]
  · have : r = 11 ∨ r = 12 ∨ r = 13 := by omega
    rcases this with rfl | rfl | rfl <;> simp (disch := omega) only [z_vs, z_vn, z_rcp]
theorem C_begin (h : LD P B os g) (hP3 : 3 ≤ P) (hB1 : 1 ≤ B) : ∃ y : ob × ob × ob, F_X2_begin op ow oe os = some y ∧ RPos P B 0 os y.1 y.2.1 y.2.2 g [] [] := by
  obtain ⟨⟨a0, a1, a2, a3, a4, a5, a8, a9, ap, ab⟩, ⟨hl, z0, z5, z6, z7, z11, z10⟩, hpp, hz, hbb⟩ := h
  have hk : ∀ i : Nat, i < 10 → F_X5_hasKing os (nI i) = some (if i < P ∧ g (12 + 8 * i) = 1 then 1 else 0) := by
    intro i hi
    simp only [F_X5_hasKing, F_X5_hasPerson, a4]
    rw [if_neg (nI_pos (by omega))]
    by_cases q : i < P
    · rw [z_ig q (by omega)]
      simp only [z_bsN]
      rw [if_neg (by decide), z_at (by omega) (by omega), (hpp i q).1]
      by_cases r : g (12 + 8 * i) = 1
      · rw [if_pos r, if_pos ⟨q, r⟩]
      · rw [if_neg r, if_neg (fun t => r t.2)]
    · rw [z_il (by omega) (by omega)]
      simp only [z_bsN]
      rw [if_pos trivial, if_neg (fun t => q t.1)]
  -- the position before the people are gone through
  obtain ⟨X, hX, x1, x2, x3, x40, x41, x5, x6, x7⟩ : ∃ X : ob, F_X2_begin op ow oe os = ((F_X2_begin_113 os 100000 X (upd ow.1 2 ((0 : Int32)), ow.2) (upd oe.1 2 ((0 : Int32)), oe.2) ((0 : Int32))).bind fun zl23 => some (zl23.2.1, zl23.2.2.1, zl23.2.2.2)) ∧ X.1 1 = 0 ∧ X.1 2 = os.1 0 ∧ X.1 3 = 0 ∧ X.2 4 0 = 0 ∧ X.2 4 1 = 0 ∧ (∀ i : Nat, i < 10 → X.2 5 i = os.2 7 i) ∧ (∀ i : Nat, i < 10 → X.2 6 i = os.2 8 i) ∧ ∀ i : Nat, i < 10 → X.2 7 i = os.2 9 i := by
    simp only [F_X2_begin, z_leN]
    refine ⟨_, rfl, ?_, ?_, ?_, ?_, ?_, fun i hi => ?_, fun i hi => ?_, fun i hi => ?_⟩
    · simp (disch := omega) only [z_us, z_un]
    · simp (disch := omega) only [z_us, z_un]
    · simp (disch := omega) only [z_us, z_un]
    · simp (disch := omega) only [z_vs, z_vn]
      rw [show (1 : Int32) = nI 1 from rfl, show (0 : Int32) = nI 0 from rfl, z_put (by omega) (by omega), z_put (by omega) (by omega), z_un (by omega), z_us]
    · simp (disch := omega) only [z_vs, z_vn]
      rw [show (1 : Int32) = nI 1 from rfl, z_put (by omega) (by omega), z_us]
    · simp (disch := omega) only [z_vs, z_vn, z_rcp]
    · simp (disch := omega) only [z_vs, z_vn, z_rcp]
    · simp (disch := omega) only [z_vs, z_vn, z_rcp]
  obtain ⟨x, Y, y0, y1, y2, y3⟩ := B_113 (ow := (upd ow.1 2 ((0 : Int32)), ow.2)) (oe := (upd oe.1 2 ((0 : Int32)), oe.2)) hk 10 0 100000 X (by omega) (by omega) (fun i hi => by omega)
  have y0 : F_X2_begin_113 os 100000 X (upd ow.1 2 ((0 : Int32)), ow.2) (upd oe.1 2 ((0 : Int32)), oe.2) 0 = _ := y0
  refine ⟨(Y, (upd ow.1 2 0, ow.2), (upd oe.1 2 0, oe.2)), by rw [hX, y0]; rfl, ?_, ?_, ?_, ?_, ?_, ?_⟩
  · refine ⟨⟨⟨hP3, ap⟩, ⟨hB1, ab⟩, a8, a9⟩, ⟨0, by omega, z0, fun q hq => ⟨0, by omega, (hz q (by omega)).1⟩⟩, hl, ⟨⟨0, by omega, z11⟩, fun q hq => ?_⟩, fun p q hp hq hne h1 h2 => ?_, ⟨fun q hq => ⟨q, hq, (hpp q hq).2.2.2.2.2.2.1⟩, fun r hr => ⟨r, hr, (hpp r hr).2.2.2.2.2.2.1⟩⟩, fun q hq => ⟨Or.inr ⟨q, hq, (hpp q hq).2.2.2.2.2.2.2.2⟩, Or.inl (hz q (by omega)).2.2.2.1, Or.inl (hz q (by omega)).2.2.2.2⟩, fun c hc => (hbb c hc).2.2.2⟩
    · have t := hpp q hq
      refine ⟨t.2.1, t.2.2.2.1, ?_, ?_⟩
      · rw [(hz q (by omega)).2.1]; exact ⟨by decide, by decide⟩
      · rw [(hz q (by omega)).2.1]; exact fun r => absurd r (by decide)
    · rw [(hz p (by omega)).2.1] at h1
      exact absurd h1 (by decide)
  · exact ⟨⟨a1, a2, a3, a4.trans a8.symm, a5.trans a9.symm⟩, fun q hq => ⟨(hpp q hq).1, (hpp q hq).2.2.2.2.2.2.2.1⟩, fun c hc => ⟨(hbb c hc).1, (hbb c hc).2.1, (hbb c hc).2.2.1⟩, z10.symm⟩
  · refine ⟨⟨?_, ?_, ?_, ?_, ?_⟩, fun q hq => ?_, fun q hq => ?_, fun q hq => ?_, fun q hq => ?_, fun q hq => ?_⟩
    · rw [y1, x1, z0]
    · rw [y1, x2, a0]
    · rw [y1, x3, z5]
    · rw [y2 4 (by omega) (by omega) (by omega) (by omega), x40, z6]
    · rw [y2 4 (by omega) (by omega) (by omega) (by omega), x41, z7]
    · rw [y2 5 (by omega) (by omega) (by omega) (by omega), x5 q (by omega), (hpp q hq).2.2.1]
    · rw [y2 6 (by omega) (by omega) (by omega) (by omega), x6 q (by omega), (hpp q hq).2.2.2.2.1]
    · rw [y2 7 (by omega) (by omega) (by omega) (by omega), x7 q (by omega), (hpp q hq).2.2.2.2.2.1]
    · rw [(y3 q (by omega)).1, (hpp q hq).2.2.2.2.2.2.1]
    · rw [(y3 q (by omega)).2.1, (hz q (by omega)).1]
  · intro q hq
    have t := y3 q (by omega)
    refine ⟨fun h1 => ⟨?_, ?_, fun h2 => ?_⟩, fun h0 => ⟨?_, t.2.2.2⟩⟩
    · rw [t.2.2.1, z_10, if_pos ⟨hq, h1⟩, (hpp q hq).2.2.2.2.2.2.2.2]
    · rw [t.2.2.2, (hz q (by omega)).2.2.2.2]
    · rw [(hpp q hq).2.2.2.2.2.2.2.2] at h2
      exact absurd h2 (z_m1 (by omega))
    · rw [t.2.2.1, z_10, if_neg (fun u => by rw [u.2] at h0; exact absurd h0 (by decide))]
  · refine ⟨⟨fun q => ⟨fun h => (nomatch h), fun h => ?_⟩, List.Pairwise.nil⟩, (by dsimp only; rw [z_us]; rfl), fun i hi => (nomatch hi)⟩
    rw [z_lof0 (hz q (by omega)).2.1] at h
    exact absurd h.2 (by decide)
  · refine ⟨⟨fun q => ⟨fun h => (nomatch h), fun h => ?_⟩, List.Pairwise.nil⟩, (by dsimp only; rw [z_us]; rfl), fun i hi => (nomatch hi)⟩
    rw [z_lof0 (hz q (by omega)).2.1] at h
    exact absurd h.2 (by decide)
end LOAD
