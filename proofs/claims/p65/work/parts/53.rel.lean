/-! The relation of the class's objects to the model's row g, for P people and B bridges, J joins at most. -/
def gA (P B : Nat) (g : Nat → Int32) : Prop := (3 ≤ P ∧ P ≤ 10) ∧ (1 ≤ B ∧ B ≤ 4) ∧ g 8 = nI P ∧ g 9 = nI B
def gT (P J : Nat) (g : Nat → Int32) : Prop := ∃ t : Nat, t ≤ 10000 ∧ g 0 = nI t ∧ ∀ p : Nat, p < P → ∃ c : Nat, c ≤ J ∧ g (12 + 8 * p + 5) = nI c
def gL (g : Nat → Int32) : Prop := (0 ≤ g 1 ∧ g 1 ≤ 90) ∧ (0 ≤ g 2 ∧ g 2 ≤ 9)
def gP (P J : Nat) (g : Nat → Int32) : Prop := (∃ q : Nat, q ≤ J ∧ g 11 = nI q) ∧ ∀ p : Nat, p < P → (g (12 + 8 * p) = 0 ∨ g (12 + 8 * p) = 1) ∧ (g (12 + 8 * p + 1) = 0 ∨ g (12 + 8 * p + 1) = 1) ∧ (0 ≤ g (12 + 8 * p + 6) ∧ g (12 + 8 * p + 6) ≤ 100) ∧ (0 < g (12 + 8 * p + 6) → 0 ≤ g (12 + 8 * p + 7) ∧ g (12 + 8 * p + 7) < g 11)
def gN (P : Nat) (g : Nat → Int32) : Prop := ∀ p q : Nat, p < P → q < P → p ≠ q → 0 < g (12 + 8 * p + 6) → 0 < g (12 + 8 * q + 6) → g (12 + 8 * p + 7) ≠ g (12 + 8 * q + 7)
def gW (P : Nat) (g : Nat → Int32) : Prop := (∀ p : Nat, p < P → ∃ r : Nat, r < P ∧ g (12 + 8 * p + 4) = nI r) ∧ ∀ r : Nat, r < P → ∃ p : Nat, p < P ∧ g (12 + 8 * p + 4) = nI r
def gR (P : Nat) (g : Nat → Int32) : Prop := ∀ k : Nat, k < P → (g (102 + 3 * k) = -1 ∨ ∃ q : Nat, q < P ∧ g (102 + 3 * k) = nI q) ∧ (g (102 + 3 * k + 1) = 0 ∨ g (102 + 3 * k + 1) = 1) ∧ (g (102 + 3 * k + 2) = 0 ∨ g (102 + 3 * k + 2) = 1)
def gB (B : Nat) (g : Nat → Int32) : Prop := ∀ b : Nat, b < B → ∃ q : Nat, 1 ≤ q ∧ q ≤ 9 ∧ g (132 + 3 * b) = nI q
def okG (P B J : Nat) (g : Nat → Int32) : Prop := gA P B g ∧ gT P J g ∧ gL g ∧ gP P J g ∧ gN P g ∧ gW P g ∧ gR P g ∧ gB B g
def RS (P B : Nat) (os : ob) (g : Nat → Int32) : Prop := (os.1 1 = g 2 ∧ os.1 2 = g 3 ∧ os.1 3 = g 4 ∧ os.1 4 = g 8 ∧ os.1 5 = g 9) ∧ (∀ p : Nat, p < P → os.2 6 p = g (12 + 8 * p) ∧ os.2 10 p = g (92 + p)) ∧ (∀ b : Nat, b < B → os.2 11 b = g (132 + 3 * b) ∧ os.2 12 b = g (132 + 3 * b + 1) ∧ os.2 13 b = g (132 + 3 * b + 2)) ∧ z_sum (os.2 8) P = g 10
def RP (P : Nat) (op : ob) (g : Nat → Int32) : Prop := (op.1 1 = g 0 ∧ op.1 2 = g 1 ∧ op.1 3 = g 5 ∧ op.2 4 0 = g 6 ∧ op.2 4 1 = g 7) ∧ (∀ p : Nat, p < P → op.2 5 p = g (12 + 8 * p + 1)) ∧ (∀ p : Nat, p < P → op.2 6 p = g (12 + 8 * p + 2)) ∧ (∀ p : Nat, p < P → op.2 7 p = g (12 + 8 * p + 3)) ∧ (∀ p : Nat, p < P → op.2 8 p = g (12 + 8 * p + 4)) ∧ (∀ p : Nat, p < P → op.2 9 p = g (12 + 8 * p + 5))
def RK (P : Nat) (op : ob) (g : Nat → Int32) : Prop := ∀ k : Nat, k < P → (g (12 + 8 * k) = 1 → op.2 10 k = g (102 + 3 * k) ∧ op.2 12 k = g (102 + 3 * k + 2) ∧ (g (102 + 3 * k) = -1 → op.2 11 k = g (102 + 3 * k + 1))) ∧ (g (12 + 8 * k) = 0 → op.2 10 k = -1 ∧ op.2 12 k = 0)
/-- a position's part, over a row -/
def RPos (P B J : Nat) (os op ow oe : ob) (g : Nat → Int32) (qw qe : List Nat) : Prop := okG P B J g ∧ RS P B os g ∧ RP P op g ∧ RK P op g ∧ RQ P ow g 0 qw ∧ RQ P oe g 1 qe
theorem z_dec (x : Int32) (n : Nat) : (x < 0 ∨ nI n ≤ x) ∨ ∃ p : Nat, p < n ∧ p < 2 ^ 31 ∧ x = nI p := by
  by_cases h : x < 0
  · exact Or.inl (Or.inl h)
  · obtain ⟨p, hp, rfl⟩ := nI_of h
    by_cases h2 : nI n ≤ nI p
    · exact Or.inl (Or.inr h2)
    · refine Or.inr ⟨p, Nat.not_le.mp fun q => h2 (nI_le q hp), hp, rfl⟩
section READ
variable {P B J : Nat} {os op ow oe oB : ob} {g : Nat → Int32} {qw qe : List Nat}
theorem RPos.hP (h : RPos P B J os op ow oe g qw qe) : 3 ≤ P ∧ P ≤ 10 := h.1.1.1
theorem RPos.hB (h : RPos P B J os op ow oe g qw qe) : 1 ≤ B ∧ B ≤ 4 := h.1.1.2.1
theorem RPos.h8 (h : RPos P B J os op ow oe g qw qe) : g 8 = nI P := h.1.1.2.2.1
theorem RPos.h9 (h : RPos P B J os op ow oe g qw qe) : g 9 = nI B := h.1.1.2.2.2
theorem RPos.s4 (h : RPos P B J os op ow oe g qw qe) : os.1 4 = nI P := h.2.1.1.2.2.2.1.trans h.h8
theorem RPos.s5 (h : RPos P B J os op ow oe g qw qe) : os.1 5 = nI B := h.2.1.1.2.2.2.2.trans h.h9
theorem RPos.kg (h : RPos P B J os op ow oe g qw qe) {p : Nat} (hp : p < P) : os.2 6 p = g (12 + 8 * p) := (h.2.1.2.1 p hp).1
theorem RPos.rk (h : RPos P B J os op ow oe g qw qe) {p : Nat} (hp : p < P) : os.2 10 p = g (92 + p) := (h.2.1.2.1 p hp).2
theorem RPos.lim (h : RPos P B J os op ow oe g qw qe) : op.1 2 = g 1 := h.2.2.1.1.2.1
theorem RPos.now (h : RPos P B J os op ow oe g qw qe) : op.1 1 = g 0 := h.2.2.1.1.1
theorem RPos.bk (h : RPos P B J os op ow oe g qw qe) {p : Nat} (hp : p < P) : op.2 5 p = g (12 + 8 * p + 1) := h.2.2.1.2.1 p hp
theorem RPos.pu (h : RPos P B J os op ow oe g qw qe) {p : Nat} (hp : p < P) : op.2 6 p = g (12 + 8 * p + 2) := h.2.2.1.2.2.1 p hp
theorem RPos.pr (h : RPos P B J os op ow oe g qw qe) {p : Nat} (hp : p < P) : op.2 7 p = g (12 + 8 * p + 3) := h.2.2.1.2.2.2.1 p hp
theorem RPos.wo (h : RPos P B J os op ow oe g qw qe) {p : Nat} (hp : p < P) : op.2 8 p = g (12 + 8 * p + 4) := h.2.2.1.2.2.2.2.1 p hp
theorem RPos.cr (h : RPos P B J os op ow oe g qw qe) {p : Nat} (hp : p < P) : op.2 9 p = g (12 + 8 * p + 5) := h.2.2.1.2.2.2.2.2 p hp
theorem RPos.ra (h : RPos P B J os op ow oe g qw qe) {p : Nat} (hp : p < P) : ∃ r : Nat, r < P ∧ g (12 + 8 * p + 4) = nI r := h.1.2.2.2.2.2.1.1 p hp
theorem RPos.k01 (h : RPos P B J os op ow oe g qw qe) {p : Nat} (hp : p < P) : g (12 + 8 * p) = 0 ∨ g (12 + 8 * p) = 1 := (h.1.2.2.2.1.2 p hp).1
theorem RPos.b01 (h : RPos P B J os op ow oe g qw qe) {p : Nat} (hp : p < P) : g (12 + 8 * p + 1) = 0 ∨ g (12 + 8 * p + 1) = 1 := (h.1.2.2.2.1.2 p hp).2.1
theorem RPos.of (h : RPos P B J os op ow oe g qw qe) {p : Nat} (hp : p < P) : 0 ≤ g (12 + 8 * p + 6) ∧ g (12 + 8 * p + 6) ≤ 100 := (h.1.2.2.2.1.2 p hp).2.2.1
theorem RPos.hqw (h : RPos P B J os op ow oe g qw qe) : RQ P ow g 0 qw := h.2.2.2.2.1
theorem RPos.hqe (h : RPos P B J os op ow oe g qw qe) : RQ P oe g 1 qe := h.2.2.2.2.2
/-! The class's readers. -/
theorem C_hp (h : RPos P B J os op ow oe g qw qe) {p : Nat} (hp : p < P) : F_X5_hasPerson os (nI p) = some 1 := by
  have hP := h.hP
  simp only [F_X5_hasPerson, h.s4]
  rw [if_neg (nI_pos (by omega)), z_ig hp (by omega)]
theorem C_hp0 (h : RPos P B J os op ow oe g qw qe) {x : Int32} (hx : x < 0 ∨ nI P ≤ x) : F_X5_hasPerson os x = some 0 := by
  simp only [F_X5_hasPerson, h.s4]
  by_cases h1 : x < 0
  · rw [if_pos h1]
  · rw [if_neg h1, if_pos (hx.resolve_left h1)]
theorem C_hk (h : RPos P B J os op ow oe g qw qe) {p : Nat} (hp : p < P) : F_X5_hasKing os (nI p) = some (if g (12 + 8 * p) = 1 then 1 else 0) := by
  have hP := h.hP
  simp only [F_X5_hasKing, C_hp h hp, Option.bind_some]
  rw [if_neg (by decide), z_at (by omega) (by omega), h.kg hp, z_ss]
theorem C_hk0 (h : RPos P B J os op ow oe g qw qe) {x : Int32} (hx : x < 0 ∨ nI P ≤ x) : F_X5_hasKing os x = some 0 := by
  simp only [F_X5_hasKing, C_hp0 h hx, Option.bind_some]
  rfl
theorem C_kb (h : RPos P B J os op ow oe g qw qe) {p r : Nat} (hp : p < P) (hr : r < P) : F_X2_keeperAngleIn op os (nI p) (nI r) = some (z_kb g p (g (92 + r))) := by
  have hP := h.hP
  simp only [F_X2_keeperAngleIn, C_bow, Option.bind_some]
  rw [z_at (by omega) (by omega), z_at (by omega) (by omega), z_at (by omega) (by omega), h.rk hr, h.pr hp, h.kg hp]
  rfl
theorem C_wo (h : RPos P B J os op ow oe g qw qe) {p : Nat} (hp : p < P) : ∃ r : Nat, r < P ∧ g (12 + 8 * p + 4) = nI r ∧ rx_at 10 (op.2 8) (nI p) = nI r ∧ z_rk g p = g (92 + r) := by
  have hP := h.hP
  obtain ⟨r, hr, e⟩ := h.ra hp
  exact ⟨r, hr, e, by rw [z_at (by omega) (by omega), h.wo hp, e], z_rkE e (by omega)⟩
theorem C_tf (h : RPos P B J os op ow oe g qw qe) {c : Prop} [Decidable c] : F_X5_tollFor os (if c then (1 : Int32) else 0) = some (if c then g 3 else g 4) := by
  simp only [F_X5_tollFor, z_10, h.2.1.1.2.1, h.2.1.1.2.2.1, z_ss]
theorem C_tf1 (h : RPos P B J os op ow oe g qw qe) : F_X5_tollFor os (1 : Int32) = some (g 3) := by
  simp [F_X5_tollFor, h.2.1.1.2.1]
theorem C_tf0 (h : RPos P B J os op ow oe g qw qe) : F_X5_tollFor os (0 : Int32) = some (g 4) := by
  simp [F_X5_tollFor, h.2.1.1.2.2.1]
theorem C_op (h : RPos P B J os op ow oe g qw qe) {b : Nat} (hb : b < B) : ∃ q t : Nat, 1 ≤ q ∧ q ≤ 9 ∧ t ≤ 10000 ∧ g (132 + 3 * b) = nI q ∧ g 0 = nI t ∧ F_X5_opens os (nI b) (g 0) = some (if g 0 - g 0 / g (132 + 3 * b) * g (132 + 3 * b) = g (132 + 3 * b + 1) then 1 else 0) := by
  have hB := h.hB
  obtain ⟨q, h1, h9, e⟩ := h.1.2.2.2.2.2.2.2 b hb
  obtain ⟨t, ht, e0, -⟩ := h.1.2.1
  refine ⟨q, t, h1, h9, ht, e, e0, ?_⟩
  have e11 := (h.2.1.2.2.1 b hb)
  simp only [F_X5_opens, z_le]
  rw [z_at (by omega) (by omega), z_at (by omega) (by omega), e11.1, e11.2.1, e, if_neg (nI_nle (by omega) (by omega))]
  rw [rx_rem, if_neg (nI_ne0 (by omega) (by omega))]
  simp only [Option.bind_some, z_ss]
/-! The model's tests of its arguments. -/
theorem z_pm1 {P : Nat} (h : 1 ≤ P) : nI P - (1 : Int32) = nI (P - 1) := by
  obtain ⟨q, rfl⟩ : ∃ q, P = q + 1 := ⟨P - 1, by omega⟩
  rw [nI_pred]; rfl
theorem z_inv {x : Int32} {P : Nat} (hP : 1 ≤ P) (hP2 : P < 2 ^ 31) (hx : x < 0 ∨ nI P ≤ x) : ¬ (0 ≤ x ∧ x ≤ nI (P - 1)) := by
  rintro ⟨h1, h2⟩
  rcases hx with hx | hx
  · exact Int32.not_le.mpr hx h1
  · have h3 := nI_lt (show P - 1 < P by omega) hP2
    exact Int32.not_le.mpr (Int32.lt_of_le_of_lt h2 h3) hx
end READ
section READ2
variable {P B J : Nat} {os op ow oe oB : ob} {g : Nat → Int32} {qw qe : List Nat}
theorem C_rp (h : RPos P B J os op ow oe g qw qe) {p : Nat} (hp : p < P) : F_X8_requirePerson oB os (nI p) = some () := by
  simp only [F_X8_requirePerson, C_hp h hp, Option.bind_some]
  rfl
theorem C_rk (h : RPos P B J os op ow oe g qw qe) {p : Nat} (hp : p < P) (hk : g (12 + 8 * p) = 1) : F_X8_requireKing oB os (nI p) = some () := by
  simp only [F_X8_requireKing, C_rp h hp, C_hk h hp, Option.bind_some, hk, if_true]
  rfl
end READ2
