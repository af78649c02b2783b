/-! The calls that the law's acts make: what they answer, and that the invariant stays. -/
def OK (P B J C t : Nat) (os op ow oe : ob) (g0 : Nat → Int32) : Prop := ∃ (g : Nat → Int32) (qw qe : List Nat), RPos P B J os op ow oe g qw qe ∧ XI P C g ∧ g 0 = nI t ∧ zD P g0 g
section FACE
variable {P B J C t : Nat} {os op op2 ow oe oB : ob} {oH : hst} {g g2 : Nat → Int32} {qw qe : List Nat}
theorem V_isKing (h : RPos P B J os op ow oe g qw qe) {p : Nat} (hp : p < P) : F_X8_isKing oB os (nI p) = some (if g (12 + 8 * p) = 1 then 1 else 0) := by
  simp only [F_X8_isKing, C_rp h hp, C_hk h hp, z_bsN]
theorem V_east (h : RPos P B J os op ow oe g qw qe) {p : Nat} (hp : p < P) : F_X8_isEast oB os op (nI p) = some (g (12 + 8 * p + 1)) := by
  have hP := h.hP
  simp only [F_X8_isEast, C_rp h hp, z_bsN]
  rw [z_at (by omega) (by omega), h.bk hp]
  rcases h.b01 hp with e | e <;> rw [e] <;> rfl
theorem V_coins (h : RPos P B J os op ow oe g qw qe) {p : Nat} (hp : p < P) : F_X8_coins oB os op (nI p) = some (g (12 + 8 * p + 2)) := by
  have hP := h.hP
  simp only [F_X8_coins, C_rp h hp, z_bsN]
  rw [z_at (by omega) (by omega), h.pu hp]
theorem V_ground (h : RPos P B J os op ow oe g qw qe) {b : Nat} (hb : b < 2) : F_X8_groundCoins oB op (nI b) = some (g (6 + b)) := by
  have hx : F_X8_bankOf (nI b) = some (nI b) := by
    have : b = 0 ∨ b = 1 := by omega
    rcases this with rfl | rfl <;> rfl
  simp only [F_X8_groundCoins, hx, z_bsN]
  rw [z_at hb (by omega), C_g4 h hb]
theorem V_offer (h : RPos P B J os op ow oe g qw qe) {p : Nat} (hp : p < P) : F_X8_offer oB os op ow oe (nI p) = some (g (12 + 8 * p + 6) - 1) := by
  simp only [F_X8_offer, C_rp h hp, C_offerOf h hp, z_bsN]
theorem V_holder (h : RPos P B J os op ow oe g qw qe) {k : Nat} (hk : k < P) (h1 : g (12 + 8 * k) = 1) : F_X8_royalHolder oB os op (nI k) = some (g (102 + 3 * k)) := by
  have hP := h.hP
  simp only [F_X8_royalHolder, C_rk h hk h1, z_bsN]
  rw [z_at (by omega) (by omega), ((h.2.2.2.1 k hk).1 h1).1]
theorem V_reG (h : RPos P B J os op ow oe g qw qe) {k : Nat} (hk : k < P) (h1 : g (12 + 8 * k) = 1) (e : g (102 + 3 * k) = -1) : F_X8_isRoyalCoinEast oB os op (nI k) = some (g (102 + 3 * k + 1)) := by
  have hP := h.hP
  obtain ⟨r1, r2, r3⟩ := (h.2.2.2.1 k hk).1 h1
  simp only [F_X8_isRoyalCoinEast, C_rk h hk h1, z_bsN, F_X2_royalCoinBank, z_leN]
  rw [z_at (by omega) (by omega), r1, if_pos e, z_at (by omega) (by omega), r3 e]
  simp only [z_bsN]
  rcases (h.1.2.2.2.2.2.2.1 k hk).2.1 with e | e <;> rw [e] <;> rfl
theorem V_reH (h : RPos P B J os op ow oe g qw qe) {k q : Nat} (hk : k < P) (h1 : g (12 + 8 * k) = 1) (hq : q < P) (e : g (102 + 3 * k) = nI q) : F_X8_isRoyalCoinEast oB os op (nI k) = some (g (12 + 8 * q + 1)) := by
  have hP := h.hP
  obtain ⟨r1, r2, r3⟩ := (h.2.2.2.1 k hk).1 h1
  simp only [F_X8_isRoyalCoinEast, C_rk h hk h1, z_bsN, F_X2_royalCoinBank, z_leN]
  rw [z_at (by omega) (by omega), r1, e, if_neg (z_m1 (show q < 2 ^ 31 by omega)), z_at (by omega) (by omega), h.bk hq]
  simp only [z_bsN]
  rcases h.b01 hq with e | e <;> rw [e] <;> rfl
theorem P_push (h : RPos P B J os op ow oe g qw qe) : ∃ oH2 : hst, F_X1_push oH op ow oe = some oH2 := by
  unfold F_X1_push
  split
  · exact ⟨_, rfl⟩
  · split
    · exact ⟨_, rfl⟩
    · obtain ⟨y, y1, y2⟩ := C_copy (op := (oH.2 (oH.1.1 1).toNatClampNeg).1) (ow := (oH.2 (oH.1.1 1).toNatClampNeg).2.1) (oe := (oH.2 (oH.1.1 1).toNatClampNeg).2.2) h
      rw [y1]
      exact ⟨_, rfl⟩
theorem P_allow (h : RPos P B J os op ow oe g qw qe) {z : Nat} {x y : Int32} (hft : F_X2_faultOf op ow oe os z x y = some 0) : ∃ oH2 : hst, F_X8_allow oB os op ow oe oH z x y = some oH2 := by
  obtain ⟨oH2, h2⟩ := P_push (oH := oH) h
  refine ⟨oH2, ?_⟩
  simp only [F_X8_allow, hft, z_bsN]
  rw [if_neg (by decide), if_neg (by decide), if_neg (by decide), h2]
  rfl
theorem DO_0 (h : RPos P B J os op ow oe g qw qe) (hx : XI P C g) (e0 : g 0 = nI t) {p : Nat} (hp : p < P) {y : Int32} (hy : 0 ≤ y.toInt) (hy2 : y ≤ g (12 + 8 * p + 2)) : ∃ (v : Int32) (op2 : ob), F_X2_drop op (nI p) y = some (v, op2) ∧ OK P B J C t os op2 ow oe g := by
  have hP := h.hP
  obtain ⟨b, hb, eb⟩ := C_b01 h hp
  have a1 : upd (upd g (12 + 8 * p + 2) (g (12 + 8 * p + 2) - y)) (6 + b) (g (6 + b) + y) (6 + b) = g (6 + b) + y := z_us
  have a2 : upd (upd g (12 + 8 * p + 2) (g (12 + 8 * p + 2) - y)) (6 + b) (g (6 + b) + y) (12 + 8 * p + 2) = g (12 + 8 * p + 2) - y := by rw [z_un (by omega), z_us]
  have k : ∀ i : Nat, i ≠ 6 + b → i ≠ 12 + 8 * p + 2 → upd (upd g (12 + 8 * p + 2) (g (12 + 8 * p + 2) - y)) (6 + b) (g (6 + b) + y) i = g i := fun i h1 h2 => by rw [z_un h1, z_un h2]
  have hv := i_le.mp hy2
  have hl := hx.1.le hp
  have h5 := hx.1.1
  refine ⟨g (6 + b) + y, (op.1, va_up (va_up op.2 6 (upd (op.2 6) p (op.2 6 p + -y))) 4 (upd (op.2 4) b (op.2 4 b + y))), ?_, upd (upd g (12 + 8 * p + 2) (g (12 + 8 * p + 2) - y)) (6 + b) (g (6 + b) + y), qw, qe, ?_, ?_, (k 0 (by omega) (by omega)).trans e0, zD.f hP.2 (fun i hi => k i (by omega) (by omega))⟩
  · simp only [F_X2_drop, z_leN]
    rw [z_at (i := p) (f := op.2 5) (by omega) (by omega), h.bk hp, eb]
    simp (disch := omega) only [z_put, z_at, z_vs, z_vn, z_us, C_g4 h hb]
  · refine h.coin hp rfl (fun r h1 h2 => by simp (disch := omega) only [z_vn]) ?_ (fun c hc => ?_) (fun i h1 h2 h3 => ?_)
    · simp (disch := omega) only [z_vn, z_vs]
      refine z_upc (fun k hk hne => ?_) ?_
      · rw [z_un (by omega), z_un (by omega)]; exact h.pu hk
      · rw [z_un (by omega), z_us, h.pu hp]; grind
    · simp (disch := omega) only [z_vs]
      by_cases q : c = b
      · subst q; rw [z_us, z_us, C_g4 h hb]
      · rw [z_un q, z_un (by omega), z_un (by omega), C_g4 h hc]
    · rw [z_un (by omega), z_un (by omega)]
  · have hb2 : 0 ≤ (g (6 + b)).toInt ∧ (g (6 + b)).toInt + (g (12 + 8 * p + 2)).toInt ≤ 999 := by
      have : b = 0 ∨ b = 1 := by omega
      rcases this with rfl | rfl
      · exact ⟨h5.2.1, hl.2.2.1⟩
      · exact ⟨h5.2.2, hl.2.2.2⟩
    refine hx.c hP.2 (hx.1.mv hP.2 hp (a := 6 + b) (by omega) (d := y.toInt) ?_ ?_ (by omega) (by omega) (fun i h1 h2 h3 => k i h1 h2)) (fun i hi => k i (by omega) (by omega))
    · rw [a1, i_add (by omega) (by omega)]
    · rw [a2, i_sub (by omega) (by omega)]
theorem DO_1 (h : RPos P B J os op ow oe g qw qe) (hx : XI P C g) (e0 : g 0 = nI t) {p b : Nat} (hp : p < P) (hb : b < 2) (eb : g (12 + 8 * p + 1) = nI b) {y : Int32} (hy : 0 ≤ y.toInt) (hy2 : y ≤ g (6 + b)) : ∃ (v : Int32) (op2 : ob), F_X2_pick op (nI p) y = some (v, op2) ∧ OK P B J C t os op2 ow oe g := by
  have hP := h.hP
  have a1 : upd (upd g (12 + 8 * p + 2) (g (12 + 8 * p + 2) + y)) (6 + b) (g (6 + b) - y) (6 + b) = g (6 + b) - y := z_us
  have a2 : upd (upd g (12 + 8 * p + 2) (g (12 + 8 * p + 2) + y)) (6 + b) (g (6 + b) - y) (12 + 8 * p + 2) = g (12 + 8 * p + 2) + y := by rw [z_un (by omega), z_us]
  have k : ∀ i : Nat, i ≠ 6 + b → i ≠ 12 + 8 * p + 2 → upd (upd g (12 + 8 * p + 2) (g (12 + 8 * p + 2) + y)) (6 + b) (g (6 + b) - y) i = g i := fun i h1 h2 => by rw [z_un h1, z_un h2]
  have hv := i_le.mp hy2
  have hl := hx.1.le hp
  have h5 := hx.1.1
  refine ⟨op.2 6 p + y, (op.1, va_up (va_up op.2 4 (upd (op.2 4) b (op.2 4 b + -y))) 6 (upd (op.2 6) p (op.2 6 p + y))), ?_, upd (upd g (12 + 8 * p + 2) (g (12 + 8 * p + 2) + y)) (6 + b) (g (6 + b) - y), qw, qe, ?_, ?_, (k 0 (by omega) (by omega)).trans e0, zD.f hP.2 (fun i hi => k i (by omega) (by omega))⟩
  · simp only [F_X2_pick, z_leN]
    rw [z_at (i := p) (f := op.2 5) (by omega) (by omega), h.bk hp, eb]
    simp (disch := omega) only [z_put, z_at, z_vs, z_vn, z_us]
  · refine h.coin hp rfl (fun r h1 h2 => by simp (disch := omega) only [z_vn]) ?_ (fun c hc => ?_) (fun i h1 h2 h3 => ?_)
    · simp (disch := omega) only [z_vs]
      refine z_upc (fun k hk hne => ?_) ?_
      · rw [z_un (by omega), z_un (by omega)]; exact h.pu hk
      · rw [z_un (by omega), z_us, h.pu hp]
    · simp (disch := omega) only [z_vn, z_vs]
      by_cases q : c = b
      · subst q; rw [z_us, z_us, C_g4 h hb]; grind
      · rw [z_un q, z_un (by omega), z_un (by omega), C_g4 h hc]
    · rw [z_un (by omega), z_un (by omega)]
  · have hb2 : 0 ≤ (g (6 + b)).toInt ∧ (g (6 + b)).toInt + (g (12 + 8 * p + 2)).toInt ≤ 999 := by
      have : b = 0 ∨ b = 1 := by omega
      rcases this with rfl | rfl
      · exact ⟨h5.2.1, hl.2.2.1⟩
      · exact ⟨h5.2.2, hl.2.2.2⟩
    refine hx.c hP.2 (hx.1.mv hP.2 hp (a := 6 + b) (by omega) (d := -y.toInt) ?_ ?_ (by omega) (by omega) (fun i h1 h2 h3 => k i h1 h2)) (fun i hi => k i (by omega) (by omega))
    · rw [a1, i_sub (by omega) (by omega)]; omega
    · rw [a2, i_add (by omega) (by omega)]; omega
theorem DO_2 (h : RPos P B J os op ow oe g qw qe) (hx : XI P C g) (e0 : g 0 = nI t) {p q : Nat} (hp : p < P) (hq : q < P) (hk : g (12 + 8 * q) = 1) : ∃ (v : Int32) (op2 : ob), F_X2_lay op os (nI p) (nI q) = some (v, op2) ∧ OK P B J C t os op2 ow oe g := by
  have hP := h.hP
  have key : RPos P B J os (op.1, va_up (va_up op.2 10 (upd (op.2 10) q (-1))) 11 (upd (op.2 11) q (g (12 + 8 * p + 1)))) ow oe (upd (upd g (102 + 3 * q) (-1)) (102 + 3 * q + 1) (g (12 + 8 * p + 1))) qw qe := by
    refine h.royal hq hk rfl (fun r h1 h2 => by simp (disch := omega) only [z_vn]) (fun c hc hne => ?_) ?_ ?_ ?_ ?_ (fun i h1 h2 => ?_)
    · simp (disch := omega) only [z_vn, z_vs, z_un]
      exact ⟨trivial, trivial⟩
    · simp (disch := omega) only [z_vn, z_vs, z_us, z_un]
    · intro _
      simp (disch := omega) only [z_vs, z_us]
    · simp (disch := omega) only [z_us, z_un]
      exact Or.inl trivial
    · simp (disch := omega) only [z_us]
      exact h.b01 hp
    · rw [z_un h2, z_un h1]
  have k : ∀ i : Nat, i ≠ 102 + 3 * q → i ≠ 102 + 3 * q + 1 → upd (upd g (102 + 3 * q) (-1)) (102 + 3 * q + 1) (g (12 + 8 * p + 1)) i = g i := fun i h1 h2 => by rw [z_un h2, z_un h1]
  obtain ⟨v, r1⟩ := Exists.intro (p := fun v => F_X2_royalCoinsOf _ os (nI p) = some v) _ (C_royals key hp)
  refine ⟨v, _, ?_, _, qw, qe, key, hx.f hP.2 (fun i hi => k i (by omega) (by omega)), (k 0 (by omega) (by omega)).trans e0, zD.f hP.2 (fun i hi => k i (by omega) (by omega))⟩
  simp only [F_X2_lay, z_leN]
  rw [z_at (i := p) (by omega) (by omega), z_vn (by omega), z_put (by omega) (by omega), z_vn (by omega), z_put (by omega) (by omega), h.bk hp, r1]
  rfl
theorem DO_3 (h : RPos P B J os op ow oe g qw qe) (hx : XI P C g) (e0 : g 0 = nI t) {p q : Nat} (hp : p < P) (hq : q < P) (hk : g (12 + 8 * q) = 1) : ∃ (v : Int32) (op2 : ob), F_X2_lift op os (nI p) (nI q) = some (v, op2) ∧ OK P B J C t os op2 ow oe g := by
  have hP := h.hP
  have key : RPos P B J os (op.1, va_up op.2 10 (upd (op.2 10) q (nI p))) ow oe (upd g (102 + 3 * q) (nI p)) qw qe := by
    refine h.royal hq hk rfl (fun r h1 h2 => by simp (disch := omega) only [z_vn]) (fun c hc hne => ?_) ?_ ?_ ?_ ?_ (fun i h1 h2 => ?_)
    · simp (disch := omega) only [z_vn, z_vs, z_un]
      exact ⟨trivial, trivial⟩
    · simp (disch := omega) only [z_vs, z_us]
    · simp (disch := omega) only [z_us]
      intro e
      exact absurd e (z_m1 (by omega))
    · simp (disch := omega) only [z_us]
      exact Or.inr ⟨p, hp, rfl⟩
    · simp (disch := omega) only [z_un]
      exact (h.1.2.2.2.2.2.2.1 q hq).2.1
    · rw [z_un h1]
  have k : ∀ i : Nat, i ≠ 102 + 3 * q → upd g (102 + 3 * q) (nI p) i = g i := fun i h1 => by rw [z_un h1]
  obtain ⟨v, r1⟩ := Exists.intro (p := fun v => F_X2_royalCoinsOf _ os (nI p) = some v) _ (C_royals key hp)
  refine ⟨v, _, ?_, _, qw, qe, key, hx.f hP.2 (fun i hi => k i (by omega)), (k 0 (by omega)).trans e0, zD.f hP.2 (fun i hi => k i (by omega))⟩
  simp only [F_X2_lift, z_leN]
  rw [z_put (by omega) (by omega), r1]
  rfl
theorem DO_4 (h : RPos P B J os op ow oe g qw qe) (hx : XI P C g) (e0 : g 0 = nI t) {p q : Nat} (hp : p < P) (hq : q < P) (hne : p ≠ q) : ∃ (v : Int32) (op2 : ob), F_X2_swap op (nI p) (nI q) = some (v, op2) ∧ OK P B J C t os op2 ow oe g := by
  have hP := h.hP
  have hB := h.hB
  refine ⟨g (12 + 8 * q + 4), (op.1, va_up op.2 8 (upd (upd (op.2 8) p (g (12 + 8 * q + 4))) q (g (12 + 8 * p + 4)))), ?_, upd (upd g (12 + 8 * p + 4) (g (12 + 8 * q + 4))) (12 + 8 * q + 4) (g (12 + 8 * p + 4)), qw, qe, ?_⟩
  · simp only [F_X2_swap, z_leN]
    rw [z_at (i := p) (f := op.2 8) (by omega) (by omega), z_at (i := q) (f := op.2 8) (by omega) (by omega)]
    simp (disch := omega) only [z_put, z_at, z_vs, z_vn, z_us, z_un, z_vv, h.wo hp, h.wo hq]
  · have k : ∀ i : Nat, i ≠ 12 + 8 * p + 4 → i ≠ 12 + 8 * q + 4 → upd (upd g (12 + 8 * p + 4) (g (12 + 8 * q + 4))) (12 + 8 * q + 4) (g (12 + 8 * p + 4)) i = g i := fun i h1 h2 => by rw [z_un h2, z_un h1]
    have kp : upd (upd g (12 + 8 * p + 4) (g (12 + 8 * q + 4))) (12 + 8 * q + 4) (g (12 + 8 * p + 4)) (12 + 8 * p + 4) = g (12 + 8 * q + 4) := by rw [z_un (by omega), z_us]
    have kq : upd (upd g (12 + 8 * p + 4) (g (12 + 8 * q + 4))) (12 + 8 * q + 4) (g (12 + 8 * p + 4)) (12 + 8 * q + 4) = g (12 + 8 * p + 4) := by rw [z_us]
    generalize upd (upd g (12 + 8 * p + 4) (g (12 + 8 * q + 4))) (12 + 8 * q + 4) (g (12 + 8 * p + 4)) = g2 at k kp kq
    refine ⟨?_, ⟨hx.1.f hP.2 (fun i hi => k i (by omega) (by omega)), ?_, fun a b ha hb e => ?_⟩, (k 0 (by omega) (by omega)).trans e0, zD.f hP.2 (fun i hi => k i (by omega) (by omega))⟩
    rotate_left
    · unfold gK
      rw [k 3 (by omega) (by omega), k 4 (by omega) (by omega)]
      exact hx.2.1
    · have hs : ∀ c : Nat, c < P → ∃ d : Nat, d < P ∧ g2 (12 + 8 * c + 4) = g (12 + 8 * d + 4) ∧ ((c = p ∧ d = q) ∨ (c ≠ p ∧ c = q ∧ d = p) ∨ (c ≠ p ∧ c ≠ q ∧ d = c)) := fun c hc => by
        by_cases r1 : c = p
        · subst r1; exact ⟨q, hq, kp, Or.inl ⟨rfl, rfl⟩⟩
        · by_cases r2 : c = q
          · subst r2; exact ⟨p, hp, kq, Or.inr (Or.inl ⟨r1, rfl, rfl⟩)⟩
          · exact ⟨c, hc, k _ (by omega) (by omega), Or.inr (Or.inr ⟨r1, r2, rfl⟩)⟩
      obtain ⟨a2, ha2, ea, ca⟩ := hs a ha
      obtain ⟨b2, hb2, eb, cb⟩ := hs b hb
      have := hx.2.2 a2 b2 ha2 hb2 (ea.symm.trans (e.trans eb))
      omega
    obtain ⟨hok, hrs, hrp, hrk, hw, he⟩ := h
    refine ⟨?_, hrs.f hP.2 (fun i hi => k i (by omega) (by omega)), ?_, hrk.f hP.2 ⟨by simp (disch := omega) only [z_vn], by simp (disch := omega) only [z_vn], by simp (disch := omega) only [z_vn]⟩ (fun i hi => k i (by omega) (by omega)), hw.f hP.2 (fun i hi => k i (by omega) (by omega)), he.f hP.2 (fun i hi => k i (by omega) (by omega))⟩
    · refine ⟨hok.1.c (k _ (by omega) (by omega)) (k _ (by omega) (by omega)), hok.2.1.c (Nat.le_refl _) (k _ (by omega) (by omega)) (fun p hp => k _ (by omega) (by omega)), hok.2.2.1.c (k _ (by omega) (by omega)) (k _ (by omega) (by omega)), hok.2.2.2.1.c (Nat.le_refl _) (k _ (by omega) (by omega)) (fun p hp => ⟨k _ (by omega) (by omega), k _ (by omega) (by omega), k _ (by omega) (by omega), k _ (by omega) (by omega)⟩), hok.2.2.2.2.1.c (fun p hp => ⟨k _ (by omega) (by omega), k _ (by omega) (by omega)⟩), ?_, hok.2.2.2.2.2.2.1.c (fun c hc => ⟨k _ (by omega) (by omega), k _ (by omega) (by omega), k _ (by omega) (by omega)⟩), hok.2.2.2.2.2.2.2.c (fun b hb => k _ (by omega) (by omega))⟩
      have hw := hok.2.2.2.2.2.1
      refine ⟨fun c hc => ?_, fun r hr => ?_⟩
      · by_cases r1 : c = p
        · subst r1; rw [kp]; exact hw.1 q hq
        · by_cases r2 : c = q
          · subst r2; rw [kq]; exact hw.1 p hp
          · rw [k _ (by omega) (by omega)]; exact hw.1 c hc
      · obtain ⟨c, hc, ec⟩ := hw.2 r hr
        by_cases r1 : c = p
        · subst r1; exact ⟨q, hq, kq.trans ec⟩
        · by_cases r2 : c = q
          · subst r2; exact ⟨p, hp, kp.trans ec⟩
          · exact ⟨c, hc, (k _ (by omega) (by omega)).trans ec⟩
    · obtain ⟨⟨a1, a2, a3, a4, a5⟩, b1, b2, b3, b4, b5⟩ := hrp
      refine ⟨⟨?_, ?_, ?_, ?_, ?_⟩, fun c hc => ?_, fun c hc => ?_, fun c hc => ?_, fun c hc => ?_, fun c hc => ?_⟩
      · rw [k _ (by omega) (by omega)]; exact a1
      · rw [k _ (by omega) (by omega)]; exact a2
      · rw [k _ (by omega) (by omega)]; exact a3
      · dsimp only; rw [z_vn (by omega), k _ (by omega) (by omega)]; exact a4
      · dsimp only; rw [z_vn (by omega), k _ (by omega) (by omega)]; exact a5
      · dsimp only; rw [z_vn (by omega), k _ (by omega) (by omega)]; exact b1 c hc
      · dsimp only; rw [z_vn (by omega), k _ (by omega) (by omega)]; exact b2 c hc
      · dsimp only; rw [z_vn (by omega), k _ (by omega) (by omega)]; exact b3 c hc
      · dsimp only; rw [z_vs]
        by_cases r2 : c = q
        · subst r2; rw [z_us, kq]
        · rw [z_un r2]
          by_cases r1 : c = p
          · subst r1; rw [z_us, kp]
          · rw [z_un r1, k _ (by omega) (by omega)]; exact b4 c hc
      · dsimp only; rw [z_vn (by omega), k _ (by omega) (by omega)]; exact b5 c hc
theorem DO_7 (h : RPos P B J os op ow oe g qw qe) (hx : XI P C g) (e0 : g 0 = nI t) {p : Nat} (hp : p < P) (y : Int32) : ∃ (v : Int32) (op2 : ob), F_X2_changePride op (nI p) y = some (v, op2) ∧ OK P B J C t os op2 ow oe g := by
  have hP := h.hP
  refine ⟨g (12 + 8 * p + 3), (op.1, va_up op.2 7 (upd (op.2 7) p y)), ?_, upd g (12 + 8 * p + 3) y, qw, qe, ?_⟩
  · simp only [F_X2_changePride, z_leN]
    rw [z_at (i := p) (by omega) (by omega), z_put (by omega) (by omega), h.pr hp]
  · have k : ∀ i : Nat, i ≠ 12 + 8 * p + 3 → upd g (12 + 8 * p + 3) y i = g i := fun i h1 => by rw [z_un h1]
    refine ⟨?_, hx.f hP.2 (fun i hi => k i (by omega)), (k 0 (by omega)).trans e0, zD.f hP.2 (fun i hi => k i (by omega))⟩
    obtain ⟨hok, hrs, hrp, hrk, hw, he⟩ := h
    refine ⟨hok.f (Nat.le_refl _) (fun i hi => k i (by omega)), hrs.f hP.2 (fun i hi => k i (by omega)), ?_, hrk.f hP.2 ⟨by simp (disch := omega) only [z_vn], by simp (disch := omega) only [z_vn], by simp (disch := omega) only [z_vn]⟩ (fun i hi => k i (by omega)), hw.f hP.2 (fun i hi => k i (by omega)), he.f hP.2 (fun i hi => k i (by omega))⟩
    obtain ⟨⟨a1, a2, a3, a4, a5⟩, b1, b2, b3, b4, b5⟩ := hrp
    refine ⟨⟨?_, ?_, ?_, ?_, ?_⟩, fun c hc => ?_, fun c hc => ?_, ?_, fun c hc => ?_, fun c hc => ?_⟩
    · rw [k _ (by omega)]; exact a1
    · rw [k _ (by omega)]; exact a2
    · rw [k _ (by omega)]; exact a3
    · dsimp only; rw [z_vn (by omega), k _ (by omega)]; exact a4
    · dsimp only; rw [z_vn (by omega), k _ (by omega)]; exact a5
    · dsimp only; rw [z_vn (by omega), k _ (by omega)]; exact b1 c hc
    · dsimp only; rw [z_vn (by omega), k _ (by omega)]; exact b2 c hc
    · dsimp only; rw [z_vs]
      exact z_upc (fun c hc hne => by rw [z_un (by omega)]; exact b3 c hc) (by rw [z_us])
    · dsimp only; rw [z_vn (by omega), k _ (by omega)]; exact b4 c hc
    · dsimp only; rw [z_vn (by omega), k _ (by omega)]; exact b5 c hc
theorem DO_6 (h : RPos P B J os op ow oe g qw qe) (hx : XI P C g) (e0 : g 0 = nI t) {p : Nat} (hp : p < P) (hq : 0 < g (12 + 8 * p + 6)) : ∃ (v : Int32) (ow2 oe2 : ob), F_X2_quit op ow oe (nI p) = some (v, ow2, oe2) ∧ OK P B J C t os op ow2 oe2 g := by
  have hP := h.hP
  have k : ∀ i : Nat, i ≠ 12 + 8 * p + 6 → upd g (12 + 8 * p + 6) 0 i = g i := fun i h1 => by rw [z_un h1]
  have k0 : upd g (12 + 8 * p + 6) 0 (12 + 8 * p + 6) = 0 := by rw [z_us]
  generalize upd g (12 + 8 * p + 6) 0 = g2 at k k0
  have nx : XI P C g2 := hx.f hP.2 (fun i hi => k i (by omega))
  have nt : g2 0 = nI t := (k 0 (by omega)).trans e0
  have nd : zD P g g2 := zD.f hP.2 (fun i hi => k i (by omega))
  obtain ⟨hok, hrs, hrp, hrk, hw, he⟩ := h
  have n1 := hok.out hp k k0
  have n2 := hrs.f (g2 := g2) hP.2 (fun i hi => k i (by omega))
  have n3 := hrp.f (g2 := g2) hP.2 (fun i hi => k i (by omega))
  have n4 := hrk.f (op2 := op) (g2 := g2) hP.2 ⟨rfl, rfl, rfl⟩ (fun i hi => k i (by omega))
  have hk2 : ∀ c : Nat, c < P → c ≠ p → g2 (12 + 8 * c + 1) = g (12 + 8 * c + 1) ∧ g2 (12 + 8 * c + 6) = g (12 + 8 * c + 6) ∧ g2 (12 + 8 * c + 7) = g (12 + 8 * c + 7) := fun c hc hne => ⟨k _ (by omega), k _ (by omega), k _ (by omega)⟩
  rcases (hok.2.2.2.1.2 p hp).2.1 with e | e
  · obtain ⟨i, hi, rfl⟩ := z_isin hw hp e hq
    obtain ⟨o2, r1, r2⟩ := hw.remove hP.2 hi k0 hk2
    refine ⟨g (12 + 8 * qw[i] + 6) - 1, o2, oe, ?_, g2, _, _, ⟨n1, n2, n3, n4, r2, he.other (z_notin he e (by decide)) (z_lof0 k0) hk2⟩, nx, nt, nd⟩
    simp only [F_X2_quit]
    rw [z_at (by omega) (by omega), hrp.2.1 _ hp, e, if_neg (by decide), C_place hP.2 hw hi, Option.bind_some, C_offer hP.2 hw hi, Option.bind_some, r1, Option.bind_some]
  · obtain ⟨i, hi, rfl⟩ := z_isin he hp e hq
    obtain ⟨o2, r1, r2⟩ := he.remove hP.2 hi k0 hk2
    refine ⟨g (12 + 8 * qe[i] + 6) - 1, ow, o2, ?_, g2, _, _, ⟨n1, n2, n3, n4, hw.other (z_notin hw e (by decide)) (z_lof0 k0) hk2, r2⟩, nx, nt, nd⟩
    simp only [F_X2_quit]
    rw [z_at (by omega) (by omega), hrp.2.1 _ hp, e, if_pos rfl, C_place hP.2 he hi, Option.bind_some, C_offer hP.2 he hi, Option.bind_some, r1, Option.bind_some]
theorem DO_5 (h : RPos P B J os op ow oe g qw qe) (hx : XI P C g) (e0 : g 0 = nI t) (hJ : J + 1 < 2 ^ 31) {p : Nat} (hp : p < P) (hq : ¬ 0 < g (12 + 8 * p + 6)) {y : Int32} (hy : 0 ≤ y ∧ y ≤ 99) : ∃ (v : Int32) (ow2 oe2 : ob), F_X2_join op ow oe (nI p) y = some (v, ow2, oe2) ∧ OK P B (J + 1) C t os op ow2 oe2 g := by
  have hP := h.hP
  have hB := h.hB
  have k : ∀ i : Nat, i ≠ 11 → i ≠ 12 + 8 * p + 6 → i ≠ 12 + 8 * p + 7 → upd (upd (upd g (12 + 8 * p + 6) (y + 1)) (12 + 8 * p + 7) (g 11)) 11 (g 11 + 1) i = g i := fun i h1 h2 h3 => by rw [z_un h1, z_un h3, z_un h2]
  have k6 : upd (upd (upd g (12 + 8 * p + 6) (y + 1)) (12 + 8 * p + 7) (g 11)) 11 (g 11 + 1) (12 + 8 * p + 6) = y + 1 := by rw [z_un (by omega), z_un (by omega), z_us]
  have k7 : upd (upd (upd g (12 + 8 * p + 6) (y + 1)) (12 + 8 * p + 7) (g 11)) 11 (g 11 + 1) (12 + 8 * p + 7) = g 11 := by rw [z_un (by omega), z_us]
  have k11 : upd (upd (upd g (12 + 8 * p + 6) (y + 1)) (12 + 8 * p + 7) (g 11)) 11 (g 11 + 1) 11 = g 11 + 1 := by rw [z_us]
  generalize upd (upd (upd g (12 + 8 * p + 6) (y + 1)) (12 + 8 * p + 7) (g 11)) 11 (g 11 + 1) = g2 at k k6 k7 k11
  have nx : XI P C g2 := hx.f hP.2 (fun i hi => k i (by omega) (by omega) (by omega))
  have nt : g2 0 = nI t := (k 0 (by omega) (by omega) (by omega)).trans e0
  have nd : zD P g g2 := zD.f hP.2 (fun i hi => k i (by omega) (by omega) (by omega))
  obtain ⟨hok, hrs, hrp, hrk, hw, he⟩ := h
  have n1 := hok.inn hJ hp hy k k6 k7 k11
  have n2 := hrs.f (g2 := g2) hP.2 (fun i hi => k i (by omega) (by omega) (by omega))
  have n3 := hrp.f (g2 := g2) hP.2 (fun i hi => k i (by omega) (by omega) (by omega))
  have n4 := hrk.f (op2 := op) (g2 := g2) hP.2 ⟨rfl, rfl, rfl⟩ (fun i hi => k i (by omega) (by omega) (by omega))
  have hk2 : ∀ c : Nat, c < P → c ≠ p → g2 (12 + 8 * c + 1) = g (12 + 8 * c + 1) ∧ g2 (12 + 8 * c + 6) = g (12 + 8 * c + 6) ∧ g2 (12 + 8 * c + 7) = g (12 + 8 * c + 7) := fun c hc hne => ⟨k _ (by omega) (by omega) (by omega), k _ (by omega) (by omega) (by omega), k _ (by omega) (by omega) (by omega)⟩
  have hno : ∀ (o : ob) (e : Int32) (ql : List Nat), RQ P o g e ql → p ∉ ql ∧ (∀ c : Nat, c ∈ ql → g (12 + 8 * c + 7) < g2 (12 + 8 * p + 7)) ∧ ∀ c : Nat, c ∈ ql → g (12 + 8 * c + 6) ≤ 100 := by
    intro o e ql hr
    have b : ∀ c : Nat, c ∈ ql → c < P ∧ 0 < g (12 + 8 * c + 6) := fun c hc => by
      have := (hr.1.1 c).mp hc
      simp only [z_lof, z_qd, Bool.and_eq_true, decide_eq_true_eq] at this
      exact ⟨this.1, this.2.1⟩
    refine ⟨fun hc => hq (b p hc).2, fun c hc => ?_, fun c hc => (hok.2.2.2.1.2 c (b c hc).1).2.2.1.2⟩
    rw [k7]
    exact ((hok.2.2.2.1.2 c (b c hc).1).2.2.2 (b c hc).2).2
  rcases (hok.2.2.2.1.2 p hp).2.1 with e | e
  · have e1 : g2 (12 + 8 * p + 1) = 0 := (k _ (by omega) (by omega) (by omega)).trans e
    have hn := hno _ _ _ hw
    obtain ⟨i, o2, ql2, r1, r2, hi, r3⟩ := hw.join hP.2 hp hn.1 hy.1 hy.2 e1 k6 hn.2.1 hk2 hn.2.2
    refine ⟨nI i, o2, oe, ?_, g2, _, _, ⟨n1, n2, n3, n4, r2, he.other (z_notin he e (by decide)) (by simp [z_lof, e1]) hk2⟩, nx, nt, nd⟩
    · simp only [F_X2_join]
      rw [z_at (by omega) (by omega), hrp.2.1 _ hp, e, if_neg (by decide), r1, Option.bind_some]
  · have e1 : g2 (12 + 8 * p + 1) = 1 := (k _ (by omega) (by omega) (by omega)).trans e
    have hn := hno _ _ _ he
    obtain ⟨i, o2, ql2, r1, r2, hi, r3⟩ := he.join hP.2 hp hn.1 hy.1 hy.2 e1 k6 hn.2.1 hk2 hn.2.2
    refine ⟨nI i, ow, o2, ?_, g2, _, _, ⟨n1, n2, n3, n4, hw.other (z_notin hw e (by decide)) (by simp [z_lof, e1]) hk2, r2⟩, nx, nt, nd⟩
    · simp only [F_X2_join]
      rw [z_at (by omega) (by omega), hrp.2.1 _ hp, e, if_pos rfl, r1, Option.bind_some]
end FACE
