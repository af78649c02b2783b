/-! The model's own readers, in closed form over its row. -/
def z_bow (raw k : Int32) : Int32 := if k = 1 then (if 0 ≤ raw then (if raw ≤ 90 then raw else 90) else 0) / 2 else (if 0 ≤ raw then (if raw ≤ 90 then raw else 90) else 0)
def z_kb (g : Nat → Int32) (p : Nat) (v : Int32) : Int32 := z_bow (80 - v - g (12 + 8 * p + 3)) (g (12 + 8 * p))
def z_tl (g : Nat → Int32) (p : Nat) (v : Int32) : Int32 := if z_kb g p v < g 1 then g 3 else g 4
def z_rk (g : Nat → Int32) (p : Nat) : Int32 := g (92 + (g (12 + 8 * p + 4)).toNatClampNeg)
def z_qd (g : Nat → Int32) (p : Nat) : Bool := decide (0 < g (12 + 8 * p + 6))
def z_ah (g : Nat → Int32) (a b : Nat) : Bool := decide (g (12 + 8 * b + 6) < g (12 + 8 * a + 6)) || (decide (g (12 + 8 * a + 6) = g (12 + 8 * b + 6)) && decide (g (12 + 8 * a + 7) < g (12 + 8 * b + 7)))
theorem C_bow {raw k : Int32} : F_X2_angleOf raw k = some (z_bow raw k) := by
  unfold F_X2_angleOf z_bow
  by_cases h1 : 0 ≤ raw <;> by_cases h2 : raw ≤ 90 <;> by_cases h3 : k = 1 <;> simp [h1, h2, h3]
theorem z_ltle {α : Type} {a b : α} {x y : Int32} : (if x ≤ y then a else b) = if y < x then b else a := by
  by_cases h : x ≤ y
  · rw [if_pos h, if_neg (Int32.not_lt.mpr h)]
  · rw [if_neg h, if_pos (Int32.not_le.mp h)]
theorem z_ss {α : Type} {a b : α} {c : Prop} [Decidable c] : (if c then some a else some b) = some (if c then a else b) := by split <;> rfl
theorem z_10 {c : Prop} [Decidable c] {α : Type} {a b : α} : (if (if c then (1 : Int32) else 0) = 0 then a else b) = if c then b else a := by
  by_cases h : c <;> simp [h]
theorem z_11 {c : Prop} [Decidable c] {α : Type} {a b : α} : (if (if c then (1 : Int32) else 0) = 1 then a else b) = if c then a else b := by
  by_cases h : c <;> simp [h]
theorem z_rkE {g : Nat → Int32} {p r : Nat} (hr : g (12 + 8 * p + 4) = nI r) (h : r < 10) : z_rk g p = g (92 + r) := by
  unfold z_rk
  rw [hr, nI_clamp (by omega)]
theorem nI_if {c : Prop} [Decidable c] : (if c then (1 : Int32) else 0) = nI (if c then 1 else 0) := by by_cases h : c <;> simp [h] <;> rfl
theorem nI_0' : (0 : Int32) = nI 0 := rfl
/-- counting loops of the model -/
def z_pof (g : Nat → Int32) (p k : Nat) : Bool := decide (k ≠ p) && (z_qd g k && (decide (g (12 + 8 * k + 1) = g (12 + 8 * p + 1)) && z_ah g k p))
def z_lof (g : Nat → Int32) (e : Int32) (k : Nat) : Bool := z_qd g k && decide (g (12 + 8 * k + 1) = e)
