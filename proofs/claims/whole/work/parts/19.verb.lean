section GEN
variable {l : Launch} {G : va_G} {k : Nat → Nat} {h : hp} {n : Nat}
def F_X7_lowest (z0 : Nat) (x1 : Int32) : Option (Int32) := if (rx_vt 0 z0) ≤ x1 then (some ((rx_vt 2 z0))) else (some ((0 : Int32)))
set_option maxRecDepth 100000 in
set_option maxHeartbeats 4000000 in
theorem w_X7_lowest {z0 : Nat} {x1 : Int32} {y : Int32} (hF : F_X7_lowest z0 x1 = some y) (hz_z0 : z0 < 9) : Met l yX7_lowest (rx_ws yX7_lowest cX7_lowest 2 (some .int)) (rx_rm 0 0) (va_Pc [.ref (k (10 + z0)), .int x1] (rx_G G k h n)) (va_Qi (fun r u => y = r ∧ u = (h, n)) (rx_B G k) (rx_A k)) 0 0 (rx_A k) := by
  refine rx_start [(0, .ref (k (10 + z0))), (1, .int x1)] rfl (Nat.le_of_ble_eq_true rfl) (by decide) rfl (fun P9 E9 S9 M9 A9 B9 me9 c9 C hname => ?_)
  unfold F_X7_lowest at hF
  refine rx_iload_n C dX7_lowest_0 1 rfl ?_
  refine rx_aload_n C dX7_lowest_1 0 rfl ?_
  refine rx_getO (v := .int (rx_vt 0 z0)) C (rx_vO C hz_z0 0 rfl) sf_X7_56 dX7_lowest_2 ?_
  refine rx_icmp_ge C dX7_lowest_5 12 (by decide) (fun c1 => ?_) (fun c1 => ?_)
  · rw [if_pos c1] at hF
    refine rx_aload_n C dX7_lowest_12 0 rfl ?_
    refine rx_getO (v := .int (rx_vt 2 z0)) C (rx_vO C hz_z0 2 rfl) sf_X7_63 dX7_lowest_13 ?_
    obtain rfl := Option.some.inj hF
    exact rx_iret C dX7_lowest_16 (Nat.le_refl _) (Nat.le_refl _) ⟨rfl, rfl⟩
  · rw [if_neg c1] at hF
    refine rx_iconst C dX7_lowest_8 (0 : Int32) (by decide) ?_
    refine rx_goto C dX7_lowest_9 16 (by decide) ?_
    obtain rfl := Option.some.inj hF
    exact rx_iret C dX7_lowest_16 (Nat.le_refl _) (Nat.le_refl _) ⟨rfl, rfl⟩
def F_X7_highest (z0 : Nat) (x1 : Int32) : Option (Int32) := if (rx_vt 0 z0) ≤ x1 then (some ((rx_vt 3 z0))) else (some ((9 : Int32)))
set_option maxRecDepth 100000 in
set_option maxHeartbeats 4000000 in
theorem w_X7_highest {z0 : Nat} {x1 : Int32} {y : Int32} (hF : F_X7_highest z0 x1 = some y) (hz_z0 : z0 < 9) : Met l yX7_highest (rx_ws yX7_highest cX7_highest 2 (some .int)) (rx_rm 0 0) (va_Pc [.ref (k (10 + z0)), .int x1] (rx_G G k h n)) (va_Qi (fun r u => y = r ∧ u = (h, n)) (rx_B G k) (rx_A k)) 0 0 (rx_A k) := by
  refine rx_start [(0, .ref (k (10 + z0))), (1, .int x1)] rfl (Nat.le_of_ble_eq_true rfl) (by decide) rfl (fun P9 E9 S9 M9 A9 B9 me9 c9 C hname => ?_)
  unfold F_X7_highest at hF
  refine rx_iload_n C dX7_highest_0 1 rfl ?_
  refine rx_aload_n C dX7_highest_1 0 rfl ?_
  refine rx_getO (v := .int (rx_vt 0 z0)) C (rx_vO C hz_z0 0 rfl) sf_X7_56 dX7_highest_2 ?_
  refine rx_icmp_ge C dX7_highest_5 13 (by decide) (fun c1 => ?_) (fun c1 => ?_)
  · rw [if_pos c1] at hF
    refine rx_aload_n C dX7_highest_13 0 rfl ?_
    refine rx_getO (v := .int (rx_vt 3 z0)) C (rx_vO C hz_z0 3 rfl) sf_X7_66 dX7_highest_14 ?_
    obtain rfl := Option.some.inj hF
    exact rx_iret C dX7_highest_17 (Nat.le_refl _) (Nat.le_refl _) ⟨rfl, rfl⟩
  · rw [if_neg c1] at hF
    refine rx_bipush C dX7_highest_8 (9 : Int32) (by decide) ?_
    refine rx_goto C dX7_highest_10 17 (by decide) ?_
    obtain rfl := Option.some.inj hF
    exact rx_iret C dX7_highest_17 (Nat.le_refl _) (Nat.le_refl _) ⟨rfl, rfl⟩
def F_X7_allows (z0 : Nat) (x1 : Int32) : Option (Int32) := if x1 < (rx_vt 2 z0) then (some ((0 : Int32))) else (if (rx_vt 3 z0) < x1 then (some ((0 : Int32))) else (some ((1 : Int32))))
set_option maxRecDepth 100000 in
set_option maxHeartbeats 4000000 in
theorem w_X7_allows {z0 : Nat} {x1 : Int32} {y : Int32} (hF : F_X7_allows z0 x1 = some y) (hz_z0 : z0 < 9) : Met l yX7_allows (rx_ws yX7_allows cX7_allows 2 (some .boolean)) (rx_rm 0 0) (va_Pc [.ref (k (10 + z0)), .int x1] (rx_G G k h n)) (va_Qi (fun r u => y = r ∧ (y = 0 ∨ y = 1) ∧ u = (h, n)) (rx_B G k) (rx_A k)) 0 0 (rx_A k) := by
  refine rx_start [(0, .ref (k (10 + z0))), (1, .int x1)] rfl (Nat.le_of_ble_eq_true rfl) (by decide) rfl (fun P9 E9 S9 M9 A9 B9 me9 c9 C hname => ?_)
  unfold F_X7_allows at hF
  refine rx_iload_n C dX7_allows_0 1 rfl ?_
  refine rx_aload_n C dX7_allows_1 0 rfl ?_
  refine rx_getO (v := .int (rx_vt 2 z0)) C (rx_vO C hz_z0 2 rfl) sf_X7_63 dX7_allows_2 ?_
  refine rx_icmp_lt C dX7_allows_5 20 (by decide) (fun c1 => ?_) (fun c1 => ?_)
  · rw [if_pos c1] at hF
    refine rx_iconst C dX7_allows_20 (0 : Int32) (by decide) ?_
    obtain rfl := Option.some.inj hF
    exact rx_zret C (rx_nz (Or.inl rfl)) dX7_allows_21 (Nat.le_refl _) (Nat.le_refl _) ⟨rfl, (Or.inl rfl), rfl⟩
  · rw [if_neg c1] at hF
    refine rx_iload_n C dX7_allows_8 1 rfl ?_
    refine rx_aload_n C dX7_allows_9 0 rfl ?_
    refine rx_getO (v := .int (rx_vt 3 z0)) C (rx_vO C hz_z0 3 rfl) sf_X7_66 dX7_allows_10 ?_
    refine rx_icmp_gt C dX7_allows_13 20 (by decide) (fun c2 => ?_) (fun c2 => ?_)
    · rw [if_pos c2] at hF
      refine rx_iconst C dX7_allows_20 (0 : Int32) (by decide) ?_
      obtain rfl := Option.some.inj hF
      exact rx_zret C (rx_nz (Or.inl rfl)) dX7_allows_21 (Nat.le_refl _) (Nat.le_refl _) ⟨rfl, (Or.inl rfl), rfl⟩
    · rw [if_neg c2] at hF
      refine rx_iconst C dX7_allows_16 (1 : Int32) (by decide) ?_
      refine rx_goto C dX7_allows_17 21 (by decide) ?_
      obtain rfl := Option.some.inj hF
      exact rx_zret C (rx_nz (Or.inr rfl)) dX7_allows_21 (Nat.le_refl _) (Nat.le_refl _) ⟨rfl, (Or.inr rfl), rfl⟩
def F_X7_spelledIn_2 (ot : ob) : Nat → Int32 → Option (Option Nat)
  | 0, _ => none
  | fu + 1, x1 => if (nI 9) ≤ x1 then (some none) else ((rx_vix x1).bind fun z4 => (F_X6_isAtWord ot ((18 + z4))).bind fun y5 => if y5 = (0 : Int32) then (F_X7_spelledIn_2 ot fu ((x1 + 1))) else (some ((some z4))))
def F_X7_spelledIn (ot : ob) : Option (Option Nat) := F_X7_spelledIn_2 ot 100000 ((0 : Int32))
set_option maxRecDepth 100000 in
set_option maxHeartbeats 4000000 in
theorem w_X7_spelledIn {t : Nat} {ot : ob} {y : Option Nat} (hF : F_X7_spelledIn ot = some y) (b_t : bT k t ot h) : Met l yX7_spelledIn (rx_ws yX7_spelledIn cX7_spelledIn 3 (some (.object "BeggarKings$Verb"))) (rx_rm 5 107) (va_Pc [.ref t] (rx_G G k h n)) (va_Qq (fun r u => y.map (fun z => k (10 + z)) = r ∧ (∀ z, y = some z → z < 9) ∧ u = (h, n)) (rx_B G k) (rx_A k)) 0 0 (rx_A k) := by
  refine rx_start [(0, .ref t)] rfl (Nat.le_of_ble_eq_true rfl) (by decide) rfl (fun P9 E9 S9 M9 A9 B9 me9 c9 C hname => ?_)
  unfold F_X7_spelledIn at hF
  refine rx_iconst C dX7_spelledIn_0 (0 : Int32) (by decide) ?_
  refine rx_istore_n C dX7_spelledIn_1 (by decide) [(1, .int ((0 : Int32))), (0, .ref t)] rfl ?_
  have loop2 : ∀ (fu : Nat)  (x1 : Int32), F_X7_spelledIn_2 ot fu x1 = some y → bT k t ot h → rx_W P9 l E9 (rx_rm 5 107) S9 M9 A9 B9 me9 c9 (MQ B9 (va_Qq (fun r u => y.map (fun z => k (10 + z)) = r ∧ (∀ z, y = some z → z < 9) ∧ u = (h, n)) (rx_B G k) (rx_A k)) A9 S9 0 0 (rx_A k)) G k 3 0 0 h n 2 [(0, .ref t), (1, .int x1)] [] := by
    intro fu
    induction fu with
    | zero => intro x1 hF b_t; exact absurd hF (by simp [F_X7_spelledIn_2])
    | succ fu ih_loop2 =>
      intro x1 hF b_t
      unfold F_X7_spelledIn_2 at hF
      refine rx_iload_n C dX7_spelledIn_2 1 rfl ?_
      refine rx_gets C C.2.2.2.2.2.2.2.2.2.2.1 sf_X7_69 dX7_spelledIn_3 ?_
      refine rx_tlen C C.2.2.2.2.2.2.2.2.2.2.2.1 dX7_spelledIn_6 ?_
      refine rx_icmp_ge C dX7_spelledIn_7 39 (by decide) (fun c3 => ?_) (fun c3 => ?_)
      · rw [if_pos c3] at hF
        refine rx_null C dX7_spelledIn_39 ?_
        obtain rfl := Option.some.inj hF
        exact rx_qret (v := ((none : Option Nat).map (fun z => k (10 + z)))) C dX7_spelledIn_40 (Nat.le_refl _) (Nat.le_refl _) ⟨rfl, (fun z q => by cases q), rfl⟩
      · rw [if_neg c3] at hF
        refine rx_gets C C.2.2.2.2.2.2.2.2.2.2.1 sf_X7_69 dX7_spelledIn_10 ?_
        refine rx_iload_n C dX7_spelledIn_13 1 rfl ?_
        replace hF := rx_biE hF; obtain ⟨z4, e_z4, hF⟩ := hF
        have hz_z4 := rx_vixE e_z4
        refine rx_tald C dX7_spelledIn_14 e_z4 ?_
        refine rx_astore_n C dX7_spelledIn_15 (by decide) [(2, .ref (k (10 + z4))), (0, .ref t), (1, .int x1)] rfl ?_
        refine rx_aload_n C dX7_spelledIn_16 0 rfl ?_
        refine rx_ifnull C dX7_spelledIn_17 ?_
        refine rx_aload_n C dX7_spelledIn_20 1 rfl ?_
        refine rx_aload_n C dX7_spelledIn_21 0 rfl ?_
        refine rx_getO C (C.2.2.2.2.2.2.2.2.2.1 _ hz_z4).2.2.2.1 sf_X7_52 dX7_spelledIn_22 ?_
        rw [show 118 + z4 = 100 + (18 + z4) by omega]
        replace hF := rx_biE hF; obtain ⟨y5, e_y5, hF⟩ := hF
        refine rx_ci (rx_rVN C (w_X6_isAtWord e_y5 b_t (by have := hz_z4; omega)) Y_X6_isAtWord V_X6_isAtWord m_X7_72 (Or.inl ⟨_, _, _, _, b_t.1, rfl⟩) ⟨⟨rfl, rfl⟩, ⟨(Nat.le_of_ble_eq_true rfl), (Nat.le_of_ble_eq_true rfl)⟩, ⟨(Nat.le_of_ble_eq_true rfl), (Nat.le_of_ble_eq_true rfl)⟩⟩ rfl rfl (Nat.le_of_ble_eq_true rfl) dX7_spelledIn_25) (fun r hh n1 hpp => ?_)
        obtain ⟨rfl, bo_y5, hu⟩ := hpp
        cases hu
        refine rx_if_eq C dX7_spelledIn_28 33 (by decide) (fun c6 => ?_) (fun c6 => ?_)
        · rw [if_pos c6] at hF
          refine rx_iinc C dX7_spelledIn_33 2 rfl (x1 + 1) rfl (by decide) [(1, .int ((x1 + 1))), (2, .ref (k (10 + z4))), (0, .ref t)] rfl ?_
          refine rx_goto C dX7_spelledIn_36 2 (by decide) ?_
          refine rx_sub [2, 0] rfl ?_
          exact ih_loop2 _ hF b_t
        · rw [if_neg c6] at hF
          refine rx_aload_n C dX7_spelledIn_31 0 rfl ?_
          obtain rfl := Option.some.inj hF
          exact rx_qret (v := (((some z4) : Option Nat).map (fun z => k (10 + z)))) C dX7_spelledIn_32 (Nat.le_refl _) (Nat.le_refl _) ⟨rfl, (fun z q => by cases q; exact hz_z4), rfl⟩
  refine rx_sub [1, 0] rfl ?_
  exact loop2 _ _ hF b_t
end GEN
