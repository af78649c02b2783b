/-! What stands against an order: the class's fault, the model's 'can'. -/
theorem z_sw : rx_sw 0 = 6 ∧ rx_sw 1 = 7 ∧ rx_sw 2 = 1 ∧ rx_sw 3 = 2 ∧ rx_sw 4 = 3 ∧ rx_sw 5 = 8 ∧ rx_sw 6 = 4 ∧ rx_sw 7 = 9 ∧ rx_sw 8 = 5 := by decide
theorem z_vt0 : rx_vt 0 0 = 1 ∧ rx_vt 0 1 = 1 ∧ rx_vt 0 2 = 2 ∧ rx_vt 0 3 = 2 ∧ rx_vt 0 4 = 2 ∧ rx_vt 0 5 = 1 ∧ rx_vt 0 6 = 1 ∧ rx_vt 0 7 = 1 ∧ rx_vt 0 8 = 0 := by decide
theorem z_vt23 : (rx_vt 2 0 = 1 ∧ rx_vt 3 0 = 999) ∧ (rx_vt 2 1 = 1 ∧ rx_vt 3 1 = 999) ∧ (rx_vt 2 5 = 0 ∧ rx_vt 3 5 = 99) ∧ (rx_vt 2 7 = 0 ∧ rx_vt 3 7 = 40) ∧ (rx_vt 2 8 = 1 ∧ rx_vt 3 8 = 50) := by decide
theorem C_al {z : Nat} {x : Int32} : F_X7_allows z x = some (if rx_vt 2 z ≤ x ∧ x ≤ rx_vt 3 z then 1 else 0) := by
  unfold F_X7_allows
  by_cases h1 : x < rx_vt 2 z
  · rw [if_pos h1, if_neg (fun q => Int32.not_le.mpr h1 q.1)]
  · rw [if_neg h1]
    by_cases h2 : rx_vt 3 z < x
    · rw [if_pos h2, if_neg (fun q => Int32.not_le.mpr h2 q.2)]
    · rw [if_neg h2, if_pos ⟨Int32.not_lt.mp h1, Int32.not_lt.mp h2⟩]
/-- how a fault is told -/
theorem C_f0 {op ow oe os : ob} {z : Nat} {x y s p : Int32} (h0 : rx_vt 0 z = 0) (h1 : F_X2_isSound op os z x y = some s) (h2 : s ≠ 0 → F_X2_isPossible op ow oe z x y = some p) : F_X2_faultOf op ow oe os z x y = some (if s = 0 then 2 else if p = 0 then 3 else 0) := by
  simp only [F_X2_faultOf, h0, h1]
  rw [if_pos (by decide), if_pos (by decide)]
  simp only [Option.bind_some]
  by_cases q : s = 0
  · rw [if_pos q, if_pos q]
  · rw [if_neg q, if_neg q, h2 q]
    simp only [Option.bind_some]
    split <;> rfl
theorem C_f1 {op ow oe os : ob} {z : Nat} {x y s p : Int32} (h0 : rx_vt 0 z = 1) (hx : F_X5_hasPerson os x = some 1) (h1 : F_X2_isSound op os z x y = some s) (h2 : s ≠ 0 → F_X2_isPossible op ow oe z x y = some p) : F_X2_faultOf op ow oe os z x y = some (if s = 0 then 2 else if p = 0 then 3 else 0) := by
  simp only [F_X2_faultOf, h0, h1, hx]
  rw [if_neg (by decide), Option.bind_some, if_neg (by decide), if_pos (by decide)]
  simp only [Option.bind_some]
  by_cases q : s = 0
  · rw [if_pos q, if_pos q]
  · rw [if_neg q, if_neg q, h2 q]
    simp only [Option.bind_some]
    split <;> rfl
theorem C_f2 {op ow oe os : ob} {z : Nat} {x y s p : Int32} (h0 : rx_vt 0 z = 2) (hx : F_X5_hasPerson os x = some 1) (hy : F_X5_hasPerson os y = some 1) (h1 : F_X2_isSound op os z x y = some s) (h2 : s ≠ 0 → F_X2_isPossible op ow oe z x y = some p) : F_X2_faultOf op ow oe os z x y = some (if s = 0 then 2 else if p = 0 then 3 else 0) := by
  simp only [F_X2_faultOf, h0, h1, hx, hy]
  rw [if_neg (by decide), Option.bind_some, if_neg (by decide), if_neg (by decide), Option.bind_some, if_neg (by decide)]
  simp only [Option.bind_some]
  by_cases q : s = 0
  · rw [if_pos q, if_pos q]
  · rw [if_neg q, if_neg q, h2 q]
    simp only [Option.bind_some]
    split <;> rfl
theorem C_fx {op ow oe os : ob} {z : Nat} {x y : Int32} (h0 : rx_vt 0 z = 1 ∨ rx_vt 0 z = 2) (hx : F_X5_hasPerson os x = some 0) : F_X2_faultOf op ow oe os z x y = some 1 := by
  simp only [F_X2_faultOf, hx]
  rw [if_neg (by rcases h0 with h0 | h0 <;> (rw [h0]; decide)), Option.bind_some, if_pos rfl]
theorem C_fy {op ow oe os : ob} {z : Nat} {x y : Int32} (h0 : rx_vt 0 z = 2) (hx : F_X5_hasPerson os x = some 1) (hy : F_X5_hasPerson os y = some 0) : F_X2_faultOf op ow oe os z x y = some 1 := by
  simp only [F_X2_faultOf, h0, hx, hy]
  rw [if_neg (by decide), Option.bind_some, if_neg (by decide), if_neg (by decide), Option.bind_some, if_pos rfl]
/-- what lies on the ground of a person's bank -/
def z_gr (g : Nat → Int32) (p : Nat) : Int32 := if g (12 + 8 * p + 1) = 1 then g 7 else g 6
theorem z_fs {c d : Prop} [Decidable c] [Decidable d] : (if (if c then (1 : Int32) else 0) = 0 then (2 : Int32) else if (if d then (0 : Int32) else 1) = 0 then 3 else 0) = if c then (if d then 3 else 0) else 2 := by
  by_cases h1 : c <;> by_cases h2 : d <;> simp [h1, h2]
theorem z_fs2 {c d : Prop} [Decidable c] [Decidable d] : (if (if c then (1 : Int32) else 0) = 0 then (2 : Int32) else if (if d then (1 : Int32) else 0) = 0 then 3 else 0) = if c then (if d then 0 else 3) else 2 := by
  by_cases h1 : c <;> by_cases h2 : d <;> simp [h1, h2]
section FAULT
variable {P B J : Nat} {os op ow oe oB : ob} {g : Nat → Int32} {qw qe : List Nat}
theorem C_gr (h : RPos P B J os op ow oe g qw qe) {p : Nat} (hp : p < P) : rx_at 2 (op.2 4) (rx_at 10 (op.2 5) (nI p)) = z_gr g p := by
  have hP := h.hP
  rw [z_at (by omega) (by omega), h.bk hp, z_gr]
  rcases h.b01 hp with e | e
  · rw [e, if_neg (by decide), ← h.2.2.1.1.2.2.2.1]; rfl
  · rw [e, if_pos rfl, ← h.2.2.1.1.2.2.2.2]; rfl
theorem C_nq (h : RPos P B J os op ow oe g qw qe) {p : Nat} (hp : p < P) : (g (12 + 8 * p + 6) - 1 = -1) ↔ ¬ 0 < g (12 + 8 * p + 6) := by
  have := h.of hp
  grind
theorem FT_0 (h : RPos P B J os op ow oe g qw qe) {p : Nat} (hp : p < P) (y : Int32) : F_X2_faultOf op ow oe os 0 (nI p) y = some (if 1 ≤ y ∧ y ≤ 999 then (if g (12 + 8 * p + 2) < y then 3 else 0) else 2) := by
  have hP := h.hP
  rw [C_f1 (z := 0) (by decide) (C_hp h hp) (s := if 1 ≤ y ∧ y ≤ 999 then 1 else 0) (p := if g (12 + 8 * p + 2) < y then 0 else 1) ?_ ?_, z_fs]
  · simp only [F_X2_isSound, z_sw, C_al, z_vt23]
    rfl
  · intro _
    simp (decide := true) only [F_X2_isPossible, z_sw, if_true, if_false]
    rw [z_at (i := p) (by omega) (by omega), h.pu hp, z_ss]
theorem FT_1 (h : RPos P B J os op ow oe g qw qe) {p : Nat} (hp : p < P) (y : Int32) : F_X2_faultOf op ow oe os 1 (nI p) y = some (if 1 ≤ y ∧ y ≤ 999 then (if z_gr g p < y then 3 else 0) else 2) := by
  have hP := h.hP
  rw [C_f1 (z := 1) (by decide) (C_hp h hp) (s := if 1 ≤ y ∧ y ≤ 999 then 1 else 0) (p := if z_gr g p < y then 0 else 1) ?_ ?_, z_fs]
  · simp only [F_X2_isSound, z_sw, C_al, z_vt23]
    rfl
  · intro _
    simp (decide := true) only [F_X2_isPossible, z_sw, if_true, if_false]
    rw [C_gr h hp, z_ss]
theorem FT_2 (h : RPos P B J os op ow oe g qw qe) {p q : Nat} (hp : p < P) (hq : q < P) : F_X2_faultOf op ow oe os 2 (nI p) (nI q) = some (if g (12 + 8 * q) = 1 then (if g (102 + 3 * q) = nI p then 0 else 3) else 2) := by
  have hP := h.hP
  rw [C_f2 (z := 2) (by decide) (C_hp h hp) (C_hp h hq) (s := if g (12 + 8 * q) = 1 then 1 else 0) (p := if g (102 + 3 * q) = nI p then 1 else 0) ?_ ?_, z_fs2]
  · simp only [F_X2_isSound, z_sw, C_hk h hq]
    rfl
  · intro hs
    have hk : g (12 + 8 * q) = 1 := by
      by_cases e : g (12 + 8 * q) = 1
      · exact e
      · rw [if_neg e] at hs; exact absurd rfl hs
    simp (decide := true) only [F_X2_isPossible, z_sw, if_true, if_false]
    rw [z_at (i := q) (by omega) (by omega), ((h.2.2.2.1 q hq).1 hk).1, z_ss]
theorem FT_3 (h : RPos P B J os op ow oe g qw qe) {p q : Nat} (hp : p < P) (hq : q < P) : F_X2_faultOf op ow oe os 3 (nI p) (nI q) = some (if g (12 + 8 * q) = 1 then (if g (102 + 3 * q) = -1 ∧ g (102 + 3 * q + 1) = g (12 + 8 * p + 1) then 0 else 3) else 2) := by
  have hP := h.hP
  rw [C_f2 (z := 3) (by decide) (C_hp h hp) (C_hp h hq) (s := if g (12 + 8 * q) = 1 then 1 else 0) (p := if g (102 + 3 * q) = -1 ∧ g (102 + 3 * q + 1) = g (12 + 8 * p + 1) then 1 else 0) ?_ ?_, z_fs2]
  · simp only [F_X2_isSound, z_sw, C_hk h hq]
    rfl
  · intro hs
    have hk : g (12 + 8 * q) = 1 := by
      by_cases e : g (12 + 8 * q) = 1
      · exact e
      · rw [if_neg e] at hs; exact absurd rfl hs
    simp (decide := true) only [F_X2_isPossible, z_sw, if_true, if_false]
    have e := (h.2.2.2.1 q hq).1 hk
    rw [z_at (i := q) (by omega) (by omega), z_at (i := q) (by omega) (by omega), z_at (i := p) (by omega) (by omega), e.1, h.bk hp]
    by_cases q1 : g (102 + 3 * q) = -1
    · rw [e.2.2 q1]
      simp only [q1, true_and, if_true, z_ss]
    · simp only [q1, false_and, if_false]
theorem FT_4 (h : RPos P B J os op ow oe g qw qe) {p q : Nat} (hp : p < P) (hq : q < P) : F_X2_faultOf op ow oe os 4 (nI p) (nI q) = some (if p ≠ q then (if g (12 + 8 * p + 1) = g (12 + 8 * q + 1) then 0 else 3) else 2) := by
  have hP := h.hP
  rw [C_f2 (z := 4) (by decide) (C_hp h hp) (C_hp h hq) (s := if p ≠ q then 1 else 0) (p := if g (12 + 8 * p + 1) = g (12 + 8 * q + 1) then 1 else 0) ?_ ?_, z_fs2]
  · simp only [F_X2_isSound, z_sw, nI_eq (show p < 2 ^ 31 by omega) (show q < 2 ^ 31 by omega)]
    by_cases e : p = q <;> simp [e]
  · intro hs
    simp (decide := true) only [F_X2_isPossible, z_sw, if_true, if_false]
    rw [z_at (i := p) (by omega) (by omega), z_at (i := q) (by omega) (by omega), h.bk hp, h.bk hq, z_ss]
theorem FT_5 (h : RPos P B J os op ow oe g qw qe) {p : Nat} (hp : p < P) (y : Int32) : F_X2_faultOf op ow oe os 5 (nI p) y = some (if 0 ≤ y ∧ y ≤ 99 then (if 0 < g (12 + 8 * p + 6) then 3 else 0) else 2) := by
  have hP := h.hP
  rw [C_f1 (z := 5) (by decide) (C_hp h hp) (s := if 0 ≤ y ∧ y ≤ 99 then 1 else 0) (p := if 0 < g (12 + 8 * p + 6) then 0 else 1) ?_ ?_, z_fs]
  · simp only [F_X2_isSound, z_sw, C_al, z_vt23]
    rfl
  · intro _
    simp (decide := true) only [F_X2_isPossible, z_sw, if_true, if_false, C_offerOf h hp, Option.bind_some, C_nq h hp]
    by_cases e : 0 < g (12 + 8 * p + 6) <;> simp [e]
theorem FT_6 (h : RPos P B J os op ow oe g qw qe) {p : Nat} (hp : p < P) (y : Int32) : F_X2_faultOf op ow oe os 6 (nI p) y = some (if 0 < g (12 + 8 * p + 6) then 0 else 3) := by
  have hP := h.hP
  rw [C_f1 (z := 6) (by decide) (C_hp h hp) (s := 1) (p := if 0 < g (12 + 8 * p + 6) then 1 else 0) ?_ ?_]
  · by_cases e : 0 < g (12 + 8 * p + 6) <;> simp [e]
  · simp only [F_X2_isSound, z_sw]
    rfl
  · intro _
    simp (decide := true) only [F_X2_isPossible, z_sw, if_true, if_false, C_offerOf h hp, Option.bind_some, C_nq h hp]
    by_cases e : 0 < g (12 + 8 * p + 6) <;> simp [e]
theorem FT_7 (h : RPos P B J os op ow oe g qw qe) {p : Nat} (hp : p < P) (y : Int32) : F_X2_faultOf op ow oe os 7 (nI p) y = some (if 0 ≤ y ∧ y ≤ 40 then 0 else 2) := by
  have hP := h.hP
  rw [C_f1 (z := 7) (by decide) (C_hp h hp) (s := if 0 ≤ y ∧ y ≤ 40 then 1 else 0) (p := 1) ?_ ?_]
  · by_cases e : 0 ≤ y ∧ y ≤ 40 <;> simp [e]
  · simp only [F_X2_isSound, z_sw, C_al, z_vt23]
    rfl
  · intro _
    simp (decide := true) only [F_X2_isPossible, z_sw, if_true, if_false]
theorem FT_8 (h : RPos P B J os op ow oe g qw qe) (x y : Int32) : F_X2_faultOf op ow oe os 8 x y = some (if 1 ≤ x ∧ x ≤ 50 then (if 10000 < g 0 + x then 3 else 0) else 2) := by
  rw [C_f0 (z := 8) (by decide) (s := if 1 ≤ x ∧ x ≤ 50 then 1 else 0) (p := if 10000 < g 0 + x then 0 else 1) ?_ ?_, z_fs]
  · simp only [F_X2_isSound, z_sw, C_al, z_vt23]
    rfl
  · intro _
    simp (decide := true) only [F_X2_isPossible, z_sw, if_true, if_false, h.now]
    by_cases e : 10000 < g 0 + x <;> simp [e]
/-! The model's 'can'. -/
end FAULT
