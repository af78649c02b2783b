section GEN
variable {l : Launch} {G : va_G} {k : Nat → Nat} {h : hp} {n : Nat}
def F_X7_allows (z0 : Nat) (x1 : Int32) : Option (Int32) := if x1 < (rx_vt 2 z0) then (some ((0 : Int32))) else (if (rx_vt 3 z0) < x1 then (some ((0 : Int32))) else (some ((1 : Int32))))
set_option maxRecDepth 100000 in
set_option maxHeartbeats 4000000 in
theorem w_X7_allows {z0 : Nat} {x1 : Int32} {y : Int32} (hF : F_X7_allows z0 x1 = some y) (hz_z0 : z0 < 9) : Met l yX7_allows (rx_ws yX7_allows cX7_allows 2 (some .boolean)) (rx_rm 0 0) (va_Pc [.ref (k (10 + z0)), .int x1] (rx_G G k h n)) (va_Qi (fun r u => y = r ∧ (y = 0 ∨ y = 1) ∧ u = (h, n)) (rx_B G k) (rx_A k)) 0 0 (rx_A k) := by
  refine rx_start [(0, .ref (k (10 + z0))), (1, .int x1)] rfl (Nat.le_of_ble_eq_true rfl) (by decide) rfl (fun P9 E9 S9 M9 A9 B9 me9 c9 C hname => ?_)
  unfold F_X7_allows at hF
  refine rx_iload_n C dX7_allows_0 1 rfl ?_
  refine rx_aload_n C dX7_allows_1 0 rfl ?_
  refine rx_getO (v := .int (rx_vt 2 z0)) C (rx_vO C hz_z0 2 rfl) sf_X7_63 dX7_allows_2 ?_
  refine rx_icmp_lt C dX7_allows_5 20 (by decide) (fun c1 => ?_) (fun c1 => ?_)
  · rw [if_pos c1] at hF
    refine rx_iconst C dX7_allows_20 (0 : Int32) (by decide) ?_
    obtain rfl := Option.some.inj hF
    exact rx_zret C (rx_nz (Or.inl rfl)) dX7_allows_21 (Nat.le_refl _) (Nat.le_refl _) ⟨rfl, (Or.inl rfl), rfl⟩
  · rw [if_neg c1] at hF
    refine rx_iload_n C dX7_allows_8 1 rfl ?_
    refine rx_aload_n C dX7_allows_9 0 rfl ?_
    refine rx_getO (v := .int (rx_vt 3 z0)) C (rx_vO C hz_z0 3 rfl) sf_X7_66 dX7_allows_10 ?_
    refine rx_icmp_gt C dX7_allows_13 20 (by decide) (fun c2 => ?_) (fun c2 => ?_)
    · rw [if_pos c2] at hF
      refine rx_iconst C dX7_allows_20 (0 : Int32) (by decide) ?_
      obtain rfl := Option.some.inj hF
      exact rx_zret C (rx_nz (Or.inl rfl)) dX7_allows_21 (Nat.le_refl _) (Nat.le_refl _) ⟨rfl, (Or.inl rfl), rfl⟩
    · rw [if_neg c2] at hF
      refine rx_iconst C dX7_allows_16 (1 : Int32) (by decide) ?_
      refine rx_goto C dX7_allows_17 21 (by decide) ?_
      obtain rfl := Option.some.inj hF
      exact rx_zret C (rx_nz (Or.inr rfl)) dX7_allows_21 (Nat.le_refl _) (Nat.le_refl _) ⟨rfl, (Or.inr rfl), rfl⟩
end GEN
