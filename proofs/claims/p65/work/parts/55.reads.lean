/-! The calls that only read: class and model answer alike. -/
section READS
variable {P B J : Nat} {os op ow oe oB : ob} {qw qe : List Nat}
theorem RPos.ra' {g : Nat → Int32} (h : RPos P B J os op ow oe g qw qe) : ∀ p : Nat, p < P → ∃ r : Nat, r < P ∧ g (12 + 8 * p + 4) = nI r := fun p hp => h.ra hp
theorem z_m1 {q : Nat} (h : q < 2 ^ 31) : nI q ≠ (-1 : Int32) := fun e => by
  have q2 := congrArg Int32.toInt e
  rw [nI_toInt h] at q2
  have : (-1 : Int32).toInt = -1 := rfl
  omega
/-! Reads without a person. -/
end READS
