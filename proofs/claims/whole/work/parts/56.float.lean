/-! The two means: quotients of small numbers are numbers. -/
set_option maxRecDepth 100000 in
set_option maxHeartbeats 8000000 in
theorem fp_mean : ∀ n : Nat, n < 11 → 3 ≤ n → ∀ q : Nat, q < 901 → FP.ddiv (FP.i2d (nI q)) (FP.i2d (nI n)) &&& 0x7fffffffffffffff ≤ 0x7ff0000000000000 := by decide +kernel
set_option maxRecDepth 100000 in
set_option maxHeartbeats 8000000 in
theorem fp_share : ∀ n : Nat, n < 11 → 1 ≤ n → ∀ q : Nat, q < 11 → FP.fdiv (FP.i2f (nI q)) (FP.i2f (nI n)) &&& 0x7fffffff ≤ 0x7f800000 ∧ FP.f2d (FP.fdiv (FP.i2f (nI q)) (FP.i2f (nI n))) &&& 0x7fffffffffffffff ≤ 0x7ff0000000000000 := by decide +kernel
