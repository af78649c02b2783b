section QON
variable {l : Launch} {G : va_G} {k : Nat → Nat} {h : hp} {n : Nat}
theorem w_queueOn {q g : Nat} {o : ob} {x : Int32} (hb : h q = some (.inr (1, [.ref g, .int (o.1 1), .int (o.1 2), .int (o.1 3), .ref (q + 1), .ref (q + 2), .ref (q + 3), .ref (q + 4), .ref (q + 5), .ref (q + 6), .ref (q + 7), .ref (q + 8), .ref (q + 9), .ref (q + 10), .ref (q + 13)]))) : Met l yX2_queueOn (rx_ws yX2_queueOn cX2_queueOn 2 (some (.object "BeggarKings$Queue"))) (rx_rm 0 0) (va_Pc [.ref q, .int x] (rx_G G k h n)) (va_Qq (fun r u => (if x = 1 then some (q + 13) else some (q + 10)) = r ∧ u = (h, n)) (rx_B G k) (rx_A k)) 0 0 (rx_A k) := by
  refine rx_start [(0, .ref q), (1, .int x)] rfl (Nat.le_of_ble_eq_true rfl) (by decide) rfl (fun P9 E9 S9 M9 A9 B9 me9 c9 C hname => ?_)
  refine rx_iload_n C dX2_queueOn_0 1 rfl ?_
  refine rx_iconst C dX2_queueOn_1 1 (by decide) ?_
  refine rx_icmp_ne C dX2_queueOn_2 12 (by decide) (fun c1 => ?_) (fun c1 => ?_)
  · refine rx_aload_n C dX2_queueOn_12 0 rfl ?_
    refine rx_getf C f_X2_42 dX2_queueOn_13 hb rfl ?_
    exact rx_qret (v := some (q + 10)) C dX2_queueOn_16 (Nat.le_refl _) (Nat.le_refl _) ⟨by rw [if_neg c1], rfl⟩
  · refine rx_aload_n C dX2_queueOn_5 0 rfl ?_
    refine rx_getf C f_X2_46 dX2_queueOn_6 hb rfl ?_
    refine rx_goto C dX2_queueOn_9 16 (by decide) ?_
    exact rx_qret (v := some (q + 13)) C dX2_queueOn_16 (Nat.le_refl _) (Nat.le_refl _) ⟨by rw [if_pos c1], rfl⟩
end QON
section GEN
variable {l : Launch} {G : va_G} {k : Nat → Nat} {h : hp} {n : Nat}
def F_X2_angleOf (x0 : Int32) (x1 : Int32) : Option (Int32) := if (0 : Int32) ≤ x0 then (if x0 ≤ (90 : Int32) then (if x1 = (1 : Int32) then (some ((x0 / (2 : Int32)))) else (some x0)) else (if x1 = (1 : Int32) then (some (((90 : Int32) / (2 : Int32)))) else (some ((90 : Int32))))) else (if x1 = (1 : Int32) then (some (((0 : Int32) / (2 : Int32)))) else (some ((0 : Int32))))
set_option maxRecDepth 100000 in
set_option maxHeartbeats 4000000 in
theorem w_X2_angleOf {x0 : Int32} {x1 : Int32} {y : Int32} (hF : F_X2_angleOf x0 x1 = some y) : Met l yX2_angleOf (rx_ws yX2_angleOf cX2_angleOf 3 (some .int)) (rx_rm 0 0) (va_Pc [.int x0, .int x1] (rx_G G k h n)) (va_Qi (fun r u => y = r ∧ u = (h, n)) (rx_B G k) (rx_A k)) 0 0 (rx_A k) := by
  refine rx_start [(0, .int x0), (1, .int x1)] rfl (Nat.le_of_ble_eq_true rfl) (by decide) rfl (fun P9 E9 S9 M9 A9 B9 me9 c9 C hname => ?_)
  unfold F_X2_angleOf at hF
  refine rx_iload_n C dX2_angleOf_0 0 rfl ?_
  refine rx_if_ge C dX2_angleOf_1 8 (by decide) (fun c1 => ?_) (fun c1 => ?_)
  · rw [if_pos c1] at hF
    refine rx_iload_n C dX2_angleOf_8 0 rfl ?_
    refine rx_bipush C dX2_angleOf_9 (90 : Int32) (by decide) ?_
    refine rx_icmp_le C dX2_angleOf_11 19 (by decide) (fun c2 => ?_) (fun c2 => ?_)
    · rw [if_pos c2] at hF
      refine rx_iload_n C dX2_angleOf_19 0 rfl ?_
      refine rx_istore_n C dX2_angleOf_20 (by decide) [(2, .int x0), (0, .int x0), (1, .int x1)] rfl ?_
      refine rx_iload_n C dX2_angleOf_21 2 rfl ?_
      refine rx_iconst C dX2_angleOf_22 (1 : Int32) (by decide) ?_
      refine rx_icmp_ne C dX2_angleOf_23 32 (by decide) (fun c3 => ?_) (fun c3 => ?_)
      · rw [if_neg c3] at hF
        refine rx_iload_n C dX2_angleOf_32 0 rfl ?_
        obtain rfl := Option.some.inj hF
        exact rx_iret C dX2_angleOf_33 (Nat.le_refl _) (Nat.le_refl _) ⟨rfl, rfl⟩
      · rw [if_pos c3] at hF
        refine rx_iload_n C dX2_angleOf_26 0 rfl ?_
        refine rx_iconst C dX2_angleOf_27 (2 : Int32) (by decide) ?_
        refine rx_idiv C dX2_angleOf_28 (by decide) ?_
        refine rx_goto C dX2_angleOf_29 33 (by decide) ?_
        obtain rfl := Option.some.inj hF
        exact rx_iret C dX2_angleOf_33 (Nat.le_refl _) (Nat.le_refl _) ⟨rfl, rfl⟩
    · rw [if_neg c2] at hF
      refine rx_bipush C dX2_angleOf_14 (90 : Int32) (by decide) ?_
      refine rx_goto C dX2_angleOf_16 20 (by decide) ?_
      refine rx_istore_n C dX2_angleOf_20 (by decide) [(2, .int ((90 : Int32))), (0, .int x0), (1, .int x1)] rfl ?_
      refine rx_iload_n C dX2_angleOf_21 2 rfl ?_
      refine rx_iconst C dX2_angleOf_22 (1 : Int32) (by decide) ?_
      refine rx_icmp_ne C dX2_angleOf_23 32 (by decide) (fun c4 => ?_) (fun c4 => ?_)
      · rw [if_neg c4] at hF
        refine rx_iload_n C dX2_angleOf_32 0 rfl ?_
        obtain rfl := Option.some.inj hF
        exact rx_iret C dX2_angleOf_33 (Nat.le_refl _) (Nat.le_refl _) ⟨rfl, rfl⟩
      · rw [if_pos c4] at hF
        refine rx_iload_n C dX2_angleOf_26 0 rfl ?_
        refine rx_iconst C dX2_angleOf_27 (2 : Int32) (by decide) ?_
        refine rx_idiv C dX2_angleOf_28 (by decide) ?_
        refine rx_goto C dX2_angleOf_29 33 (by decide) ?_
        obtain rfl := Option.some.inj hF
        exact rx_iret C dX2_angleOf_33 (Nat.le_refl _) (Nat.le_refl _) ⟨rfl, rfl⟩
  · rw [if_neg c1] at hF
    refine rx_iconst C dX2_angleOf_4 (0 : Int32) (by decide) ?_
    refine rx_goto C dX2_angleOf_5 20 (by decide) ?_
    refine rx_istore_n C dX2_angleOf_20 (by decide) [(2, .int ((0 : Int32))), (0, .int x0), (1, .int x1)] rfl ?_
    refine rx_iload_n C dX2_angleOf_21 2 rfl ?_
    refine rx_iconst C dX2_angleOf_22 (1 : Int32) (by decide) ?_
    refine rx_icmp_ne C dX2_angleOf_23 32 (by decide) (fun c5 => ?_) (fun c5 => ?_)
    · rw [if_neg c5] at hF
      refine rx_iload_n C dX2_angleOf_32 0 rfl ?_
      obtain rfl := Option.some.inj hF
      exact rx_iret C dX2_angleOf_33 (Nat.le_refl _) (Nat.le_refl _) ⟨rfl, rfl⟩
    · rw [if_pos c5] at hF
      refine rx_iload_n C dX2_angleOf_26 0 rfl ?_
      refine rx_iconst C dX2_angleOf_27 (2 : Int32) (by decide) ?_
      refine rx_idiv C dX2_angleOf_28 (by decide) ?_
      refine rx_goto C dX2_angleOf_29 33 (by decide) ?_
      obtain rfl := Option.some.inj hF
      exact rx_iret C dX2_angleOf_33 (Nat.le_refl _) (Nat.le_refl _) ⟨rfl, rfl⟩
def F_X2_royalCoinBank (op : ob) (x1 : Int32) : Option (Int32) := rx_le ((rx_at 10 (op.2 10) x1)) fun v1 => if v1 = (-1 : Int32) then (some ((rx_at 10 (op.2 11) x1))) else (some ((rx_at 10 (op.2 5) v1)))
set_option maxRecDepth 100000 in
set_option maxHeartbeats 4000000 in
theorem w_X2_royalCoinBank {q g : Nat} {op : ob} {x1 : Int32} {y : Int32} (hF : F_X2_royalCoinBank op x1 = some y) (b_p : bP k q g op h) : Met l yX2_royalCoinBank (rx_ws yX2_royalCoinBank cX2_royalCoinBank 3 (some .int)) (rx_rm 1 21) (va_Pc [.ref q, .int x1] (rx_G G k h n)) (va_Qi (fun r u => y = r ∧ u = (h, n)) (rx_B G k) (rx_A k)) 0 0 (rx_A k) := by
  refine rx_start [(0, .ref q), (1, .int x1)] rfl (Nat.le_of_ble_eq_true rfl) (by decide) rfl (fun P9 E9 S9 M9 A9 B9 me9 c9 C hname => ?_)
  unfold F_X2_royalCoinBank at hF
  refine rx_aload_n C dX2_royalCoinBank_0 0 rfl ?_
  refine rx_getf C f_X2_30 dX2_royalCoinBank_1 b_p.1 rfl ?_
  refine rx_iload_n C dX2_royalCoinBank_4 1 rfl ?_
  refine rx_ci (rx_rSN C (w_at b_p.2.2.2.2.2.2.2.1 (by decide)) Y_X8_at S_X8_at m_X2_91 ⟨⟨rfl, rfl⟩, ⟨(Nat.le_of_ble_eq_true rfl), (Nat.le_of_ble_eq_true rfl)⟩, ⟨(Nat.le_of_ble_eq_true rfl), (Nat.le_of_ble_eq_true rfl)⟩⟩ rfl rfl (Nat.le_of_ble_eq_true rfl) dX2_royalCoinBank_5) (fun r hh n1 hpp => ?_)
  obtain ⟨rfl, hu⟩ := hpp
  cases hu
  replace hF := rx_leE hF; obtain ⟨v1, e_v1, hF⟩ := hF
  rw [e_v1]
  refine rx_istore_n C dX2_royalCoinBank_8 (by decide) [(2, .int v1), (0, .ref q), (1, .int x1)] rfl ?_
  refine rx_iload_n C dX2_royalCoinBank_9 0 rfl ?_
  refine rx_iconst C dX2_royalCoinBank_10 (-1 : Int32) (by decide) ?_
  refine rx_icmp_ne C dX2_royalCoinBank_11 25 (by decide) (fun c2 => ?_) (fun c2 => ?_)
  · rw [if_neg c2] at hF
    refine rx_aload_n C dX2_royalCoinBank_25 1 rfl ?_
    refine rx_getf C f_X2_15 dX2_royalCoinBank_26 b_p.1 rfl ?_
    refine rx_iload_n C dX2_royalCoinBank_29 0 rfl ?_
    refine rx_ci (rx_rSN C (w_at b_p.2.2.1 (by decide)) Y_X8_at S_X8_at m_X2_91 ⟨⟨rfl, rfl⟩, ⟨(Nat.le_of_ble_eq_true rfl), (Nat.le_of_ble_eq_true rfl)⟩, ⟨(Nat.le_of_ble_eq_true rfl), (Nat.le_of_ble_eq_true rfl)⟩⟩ rfl rfl (Nat.le_of_ble_eq_true rfl) dX2_royalCoinBank_30) (fun r hh n1 hpp => ?_)
    obtain ⟨rfl, hu⟩ := hpp
    cases hu
    obtain rfl := Option.some.inj hF
    exact rx_iret C dX2_royalCoinBank_33 (Nat.le_refl _) (Nat.le_refl _) ⟨rfl, rfl⟩
  · rw [if_pos c2] at hF
    refine rx_aload_n C dX2_royalCoinBank_14 1 rfl ?_
    refine rx_getf C f_X2_33 dX2_royalCoinBank_15 b_p.1 rfl ?_
    refine rx_iload_n C dX2_royalCoinBank_18 2 rfl ?_
    refine rx_ci (rx_rSN C (w_at b_p.2.2.2.2.2.2.2.2.1 (by decide)) Y_X8_at S_X8_at m_X2_91 ⟨⟨rfl, rfl⟩, ⟨(Nat.le_of_ble_eq_true rfl), (Nat.le_of_ble_eq_true rfl)⟩, ⟨(Nat.le_of_ble_eq_true rfl), (Nat.le_of_ble_eq_true rfl)⟩⟩ rfl rfl (Nat.le_of_ble_eq_true rfl) dX2_royalCoinBank_19) (fun r hh n1 hpp => ?_)
    obtain ⟨rfl, hu⟩ := hpp
    cases hu
    refine rx_goto C dX2_royalCoinBank_22 33 (by decide) ?_
    obtain rfl := Option.some.inj hF
    exact rx_iret C dX2_royalCoinBank_33 (Nat.le_refl _) (Nat.le_refl _) ⟨rfl, rfl⟩
def F_X2_royalCoinsOf_4 (op : ob) (ost : ob) (x1 : Int32) : Nat → Int32 → Int32 → Option (Int32 × Int32)
  | 0, _, _ => none
  | fu + 1, x2, x3 => if (ost.1 4) ≤ x3 then (some (x2, x3)) else (if (rx_at 10 (op.2 10) x3) = x1 then (F_X2_royalCoinsOf_4 op ost x1 fu ((x2 + 1)) ((x3 + 1))) else (F_X2_royalCoinsOf_4 op ost x1 fu x2 ((x3 + 1))))
def F_X2_royalCoinsOf (op : ob) (ost : ob) (x1 : Int32) : Option (Int32) := (F_X2_royalCoinsOf_4 op ost x1 100000 ((0 : Int32)) ((0 : Int32))).bind fun zl5 => some zl5.1
set_option maxRecDepth 100000 in
set_option maxHeartbeats 4000000 in
theorem w_X2_royalCoinsOf {q g : Nat} {op : ob} {ost : ob} {x1 : Int32} {y : Int32} (hF : F_X2_royalCoinsOf op ost x1 = some y) (b_p : bP k q g op h) (b_st : bS k g ost h) (hd0 : q + 16 ≤ g ∨ g + 9 ≤ q) : Met l yX2_royalCoinsOf (rx_ws yX2_royalCoinsOf cX2_royalCoinsOf 4 (some .int)) (rx_rm 1 21) (va_Pc [.ref q, .int x1] (rx_G G k h n)) (va_Qi (fun r u => y = r ∧ u = (h, n)) (rx_B G k) (rx_A k)) 0 0 (rx_A k) := by
  refine rx_start [(0, .ref q), (1, .int x1)] rfl (Nat.le_of_ble_eq_true rfl) (by decide) rfl (fun P9 E9 S9 M9 A9 B9 me9 c9 C hname => ?_)
  unfold F_X2_royalCoinsOf at hF
  refine rx_iconst C dX2_royalCoinsOf_0 (0 : Int32) (by decide) ?_
  refine rx_istore_n C dX2_royalCoinsOf_1 (by decide) [(2, .int ((0 : Int32))), (0, .ref q), (1, .int x1)] rfl ?_
  refine rx_iconst C dX2_royalCoinsOf_2 (0 : Int32) (by decide) ?_
  refine rx_istore_n C dX2_royalCoinsOf_3 (by decide) [(3, .int ((0 : Int32))), (2, .int ((0 : Int32))), (0, .ref q), (1, .int x1)] rfl ?_
  have loop2 : ∀ (fu : Nat) (zz : Int32 × Int32)  (x2 : Int32) (x3 : Int32), F_X2_royalCoinsOf_4 op ost x1 fu x2 x3 = some zz → bP k q g op h → bS k g ost h → (rx_W P9 l E9 (rx_rm 1 21) S9 M9 A9 B9 me9 c9 (MQ B9 (va_Qi (fun r u => y = r ∧ u = (h, n)) (rx_B G k) (rx_A k)) A9 S9 0 0 (rx_A k)) G k 4 0 0 h n 36 [(0, .ref q), (1, .int x1), (2, .int zz.1), (3, .int zz.2)] []) → rx_W P9 l E9 (rx_rm 1 21) S9 M9 A9 B9 me9 c9 (MQ B9 (va_Qi (fun r u => y = r ∧ u = (h, n)) (rx_B G k) (rx_A k)) A9 S9 0 0 (rx_A k)) G k 4 0 0 h n 4 [(0, .ref q), (1, .int x1), (2, .int x2), (3, .int x3)] [] := by
    intro fu
    induction fu with
    | zero => intro zz x2 x3 hF b_p b_st KK; exact absurd hF (by simp [F_X2_royalCoinsOf_4])
    | succ fu ih_loop2 =>
      intro zz x2 x3 hF b_p b_st KK
      unfold F_X2_royalCoinsOf_4 at hF
      refine rx_iload_n C dX2_royalCoinsOf_4 3 rfl ?_
      refine rx_aload_n C dX2_royalCoinsOf_5 0 rfl ?_
      refine rx_getf C f_X2_49 dX2_royalCoinsOf_6 b_p.1 rfl ?_
      refine rx_getfN C f_X2_88 dX2_royalCoinsOf_9 b_st.1 rfl ?_
      refine rx_icmp_ge C dX2_royalCoinsOf_12 36 (by decide) (fun c3 => ?_) (fun c3 => ?_)
      · rw [if_pos c3] at hF
        obtain rfl := Option.some.inj hF
        refine rx_sub [0, 1, 2, 3] rfl ?_
        exact KK
      · rw [if_neg c3] at hF
        refine rx_aload_n C dX2_royalCoinsOf_15 0 rfl ?_
        refine rx_getf C f_X2_30 dX2_royalCoinsOf_16 b_p.1 rfl ?_
        refine rx_iload_n C dX2_royalCoinsOf_19 3 rfl ?_
        refine rx_ci (rx_rSN C (w_at b_p.2.2.2.2.2.2.2.1 (by decide)) Y_X8_at S_X8_at m_X2_91 ⟨⟨rfl, rfl⟩, ⟨(Nat.le_of_ble_eq_true rfl), (Nat.le_of_ble_eq_true rfl)⟩, ⟨(Nat.le_of_ble_eq_true rfl), (Nat.le_of_ble_eq_true rfl)⟩⟩ rfl rfl (Nat.le_of_ble_eq_true rfl) dX2_royalCoinsOf_20) (fun r hh n1 hpp => ?_)
        obtain ⟨rfl, hu⟩ := hpp
        cases hu
        refine rx_iload_n C dX2_royalCoinsOf_23 1 rfl ?_
        refine rx_icmp_ne C dX2_royalCoinsOf_24 30 (by decide) (fun c4 => ?_) (fun c4 => ?_)
        · rw [if_neg c4] at hF
          refine rx_iinc C dX2_royalCoinsOf_30 3 rfl (x3 + 1) rfl (by decide) [(3, .int ((x3 + 1))), (0, .ref q), (1, .int x1), (2, .int x2)] rfl ?_
          refine rx_goto C dX2_royalCoinsOf_33 4 (by decide) ?_
          refine rx_sub [1, 2, 3, 0] rfl ?_
          exact ih_loop2 _ _ _ hF b_p b_st KK
        · rw [if_pos c4] at hF
          refine rx_iinc C dX2_royalCoinsOf_27 2 rfl (x2 + 1) rfl (by decide) [(2, .int ((x2 + 1))), (0, .ref q), (1, .int x1), (3, .int x3)] rfl ?_
          refine rx_iinc C dX2_royalCoinsOf_30 3 rfl (x3 + 1) rfl (by decide) [(3, .int ((x3 + 1))), (2, .int ((x2 + 1))), (0, .ref q), (1, .int x1)] rfl ?_
          refine rx_goto C dX2_royalCoinsOf_33 4 (by decide) ?_
          refine rx_sub [2, 3, 1, 0] rfl ?_
          exact ih_loop2 _ _ _ hF b_p b_st KK
  refine rx_sub [2, 3, 1, 0] rfl ?_
  replace hF := rx_biE hF; obtain ⟨zl5, e_zl5, hF⟩ := hF
  refine loop2 _ zl5 _ _ e_zl5 b_p b_st ?_
  refine rx_iload_n C dX2_royalCoinsOf_36 2 rfl ?_
  obtain rfl := Option.some.inj hF
  exact rx_iret C dX2_royalCoinsOf_37 (Nat.le_refl _) (Nat.le_refl _) ⟨rfl, rfl⟩
def F_X2_countedInAll_4 (op : ob) (ost : ob) : Nat → Int32 → Int32 → Option (Int32 × Int32)
  | 0, _, _ => none
  | fu + 1, x1, x2 => if (ost.1 4) ≤ x2 then (some (x1, x2)) else (rx_le ((x1 + (rx_at 10 (op.2 12) x2))) fun v4 => F_X2_countedInAll_4 op ost fu v4 ((x2 + 1)))
def F_X2_countedInAll (op : ob) (ost : ob) : Option (Int32) := (F_X2_countedInAll_4 op ost 100000 ((0 : Int32)) ((0 : Int32))).bind fun zl5 => some zl5.1
set_option maxRecDepth 100000 in
set_option maxHeartbeats 4000000 in
theorem w_X2_countedInAll {q g : Nat} {op : ob} {ost : ob} {y : Int32} (hF : F_X2_countedInAll op ost = some y) (b_p : bP k q g op h) (b_st : bS k g ost h) (hd0 : q + 16 ≤ g ∨ g + 9 ≤ q) : Met l yX2_countedInAll (rx_ws yX2_countedInAll cX2_countedInAll 3 (some .int)) (rx_rm 1 21) (va_Pc [.ref q] (rx_G G k h n)) (va_Qi (fun r u => y = r ∧ u = (h, n)) (rx_B G k) (rx_A k)) 0 0 (rx_A k) := by
  refine rx_start [(0, .ref q)] rfl (Nat.le_of_ble_eq_true rfl) (by decide) rfl (fun P9 E9 S9 M9 A9 B9 me9 c9 C hname => ?_)
  unfold F_X2_countedInAll at hF
  refine rx_iconst C dX2_countedInAll_0 (0 : Int32) (by decide) ?_
  refine rx_istore_n C dX2_countedInAll_1 (by decide) [(1, .int ((0 : Int32))), (0, .ref q)] rfl ?_
  refine rx_iconst C dX2_countedInAll_2 (0 : Int32) (by decide) ?_
  refine rx_istore_n C dX2_countedInAll_3 (by decide) [(2, .int ((0 : Int32))), (1, .int ((0 : Int32))), (0, .ref q)] rfl ?_
  have loop2 : ∀ (fu : Nat) (zz : Int32 × Int32)  (x1 : Int32) (x2 : Int32), F_X2_countedInAll_4 op ost fu x1 x2 = some zz → bP k q g op h → bS k g ost h → (rx_W P9 l E9 (rx_rm 1 21) S9 M9 A9 B9 me9 c9 (MQ B9 (va_Qi (fun r u => y = r ∧ u = (h, n)) (rx_B G k) (rx_A k)) A9 S9 0 0 (rx_A k)) G k 3 0 0 h n 32 [(0, .ref q), (1, .int zz.1), (2, .int zz.2)] []) → rx_W P9 l E9 (rx_rm 1 21) S9 M9 A9 B9 me9 c9 (MQ B9 (va_Qi (fun r u => y = r ∧ u = (h, n)) (rx_B G k) (rx_A k)) A9 S9 0 0 (rx_A k)) G k 3 0 0 h n 4 [(0, .ref q), (1, .int x1), (2, .int x2)] [] := by
    intro fu
    induction fu with
    | zero => intro zz x1 x2 hF b_p b_st KK; exact absurd hF (by simp [F_X2_countedInAll_4])
    | succ fu ih_loop2 =>
      intro zz x1 x2 hF b_p b_st KK
      unfold F_X2_countedInAll_4 at hF
      refine rx_iload_n C dX2_countedInAll_4 2 rfl ?_
      refine rx_aload_n C dX2_countedInAll_5 0 rfl ?_
      refine rx_getf C f_X2_49 dX2_countedInAll_6 b_p.1 rfl ?_
      refine rx_getfN C f_X2_88 dX2_countedInAll_9 b_st.1 rfl ?_
      refine rx_icmp_ge C dX2_countedInAll_12 32 (by decide) (fun c3 => ?_) (fun c3 => ?_)
      · rw [if_pos c3] at hF
        obtain rfl := Option.some.inj hF
        refine rx_sub [0, 1, 2] rfl ?_
        exact KK
      · rw [if_neg c3] at hF
        refine rx_iload_n C dX2_countedInAll_15 1 rfl ?_
        refine rx_aload_n C dX2_countedInAll_16 0 rfl ?_
        refine rx_getf C f_X2_36 dX2_countedInAll_17 b_p.1 rfl ?_
        refine rx_iload_n C dX2_countedInAll_20 2 rfl ?_
        refine rx_ci (rx_rSN C (w_at b_p.2.2.2.2.2.2.2.2.2 (by decide)) Y_X8_at S_X8_at m_X2_91 ⟨⟨rfl, rfl⟩, ⟨(Nat.le_of_ble_eq_true rfl), (Nat.le_of_ble_eq_true rfl)⟩, ⟨(Nat.le_of_ble_eq_true rfl), (Nat.le_of_ble_eq_true rfl)⟩⟩ rfl rfl (Nat.le_of_ble_eq_true rfl) dX2_countedInAll_21) (fun r hh n1 hpp => ?_)
        obtain ⟨rfl, hu⟩ := hpp
        cases hu
        refine rx_iadd C dX2_countedInAll_24 ?_
        replace hF := rx_leE hF; obtain ⟨v4, e_v4, hF⟩ := hF
        rw [e_v4]
        refine rx_istore_n C dX2_countedInAll_25 (by decide) [(1, .int v4), (0, .ref q), (2, .int x2)] rfl ?_
        refine rx_iinc C dX2_countedInAll_26 2 rfl (x2 + 1) rfl (by decide) [(2, .int ((x2 + 1))), (1, .int v4), (0, .ref q)] rfl ?_
        refine rx_goto C dX2_countedInAll_29 4 (by decide) ?_
        refine rx_sub [2, 1, 0] rfl ?_
        exact ih_loop2 _ _ _ hF b_p b_st KK
  refine rx_sub [2, 1, 0] rfl ?_
  replace hF := rx_biE hF; obtain ⟨zl5, e_zl5, hF⟩ := hF
  refine loop2 _ zl5 _ _ e_zl5 b_p b_st ?_
  refine rx_iload_n C dX2_countedInAll_32 1 rfl ?_
  obtain rfl := Option.some.inj hF
  exact rx_iret C dX2_countedInAll_33 (Nat.le_refl _) (Nat.le_refl _) ⟨rfl, rfl⟩
def F_X2_peopleOn_4 (op : ob) (ost : ob) (x1 : Int32) : Nat → Int32 → Int32 → Option (Int32 × Int32)
  | 0, _, _ => none
  | fu + 1, x2, x3 => if (ost.1 4) ≤ x3 then (some (x2, x3)) else (if (rx_at 10 (op.2 5) x3) = x1 then (F_X2_peopleOn_4 op ost x1 fu ((x2 + 1)) ((x3 + 1))) else (F_X2_peopleOn_4 op ost x1 fu x2 ((x3 + 1))))
def F_X2_peopleOn (op : ob) (ost : ob) (x1 : Int32) : Option (Int32) := (F_X2_peopleOn_4 op ost x1 100000 ((0 : Int32)) ((0 : Int32))).bind fun zl5 => some zl5.1
set_option maxRecDepth 100000 in
set_option maxHeartbeats 4000000 in
theorem w_X2_peopleOn {q g : Nat} {op : ob} {ost : ob} {x1 : Int32} {y : Int32} (hF : F_X2_peopleOn op ost x1 = some y) (b_p : bP k q g op h) (b_st : bS k g ost h) (hd0 : q + 16 ≤ g ∨ g + 9 ≤ q) : Met l yX2_peopleOn (rx_ws yX2_peopleOn cX2_peopleOn 4 (some .int)) (rx_rm 1 21) (va_Pc [.ref q, .int x1] (rx_G G k h n)) (va_Qi (fun r u => y = r ∧ u = (h, n)) (rx_B G k) (rx_A k)) 0 0 (rx_A k) := by
  refine rx_start [(0, .ref q), (1, .int x1)] rfl (Nat.le_of_ble_eq_true rfl) (by decide) rfl (fun P9 E9 S9 M9 A9 B9 me9 c9 C hname => ?_)
  unfold F_X2_peopleOn at hF
  refine rx_iconst C dX2_peopleOn_0 (0 : Int32) (by decide) ?_
  refine rx_istore_n C dX2_peopleOn_1 (by decide) [(2, .int ((0 : Int32))), (0, .ref q), (1, .int x1)] rfl ?_
  refine rx_iconst C dX2_peopleOn_2 (0 : Int32) (by decide) ?_
  refine rx_istore_n C dX2_peopleOn_3 (by decide) [(3, .int ((0 : Int32))), (2, .int ((0 : Int32))), (0, .ref q), (1, .int x1)] rfl ?_
  have loop2 : ∀ (fu : Nat) (zz : Int32 × Int32)  (x2 : Int32) (x3 : Int32), F_X2_peopleOn_4 op ost x1 fu x2 x3 = some zz → bP k q g op h → bS k g ost h → (rx_W P9 l E9 (rx_rm 1 21) S9 M9 A9 B9 me9 c9 (MQ B9 (va_Qi (fun r u => y = r ∧ u = (h, n)) (rx_B G k) (rx_A k)) A9 S9 0 0 (rx_A k)) G k 4 0 0 h n 36 [(0, .ref q), (1, .int x1), (2, .int zz.1), (3, .int zz.2)] []) → rx_W P9 l E9 (rx_rm 1 21) S9 M9 A9 B9 me9 c9 (MQ B9 (va_Qi (fun r u => y = r ∧ u = (h, n)) (rx_B G k) (rx_A k)) A9 S9 0 0 (rx_A k)) G k 4 0 0 h n 4 [(0, .ref q), (1, .int x1), (2, .int x2), (3, .int x3)] [] := by
    intro fu
    induction fu with
    | zero => intro zz x2 x3 hF b_p b_st KK; exact absurd hF (by simp [F_X2_peopleOn_4])
    | succ fu ih_loop2 =>
      intro zz x2 x3 hF b_p b_st KK
      unfold F_X2_peopleOn_4 at hF
      refine rx_iload_n C dX2_peopleOn_4 3 rfl ?_
      refine rx_aload_n C dX2_peopleOn_5 0 rfl ?_
      refine rx_getf C f_X2_49 dX2_peopleOn_6 b_p.1 rfl ?_
      refine rx_getfN C f_X2_88 dX2_peopleOn_9 b_st.1 rfl ?_
      refine rx_icmp_ge C dX2_peopleOn_12 36 (by decide) (fun c3 => ?_) (fun c3 => ?_)
      · rw [if_pos c3] at hF
        obtain rfl := Option.some.inj hF
        refine rx_sub [0, 1, 2, 3] rfl ?_
        exact KK
      · rw [if_neg c3] at hF
        refine rx_aload_n C dX2_peopleOn_15 0 rfl ?_
        refine rx_getf C f_X2_15 dX2_peopleOn_16 b_p.1 rfl ?_
        refine rx_iload_n C dX2_peopleOn_19 3 rfl ?_
        refine rx_ci (rx_rSN C (w_at b_p.2.2.1 (by decide)) Y_X8_at S_X8_at m_X2_91 ⟨⟨rfl, rfl⟩, ⟨(Nat.le_of_ble_eq_true rfl), (Nat.le_of_ble_eq_true rfl)⟩, ⟨(Nat.le_of_ble_eq_true rfl), (Nat.le_of_ble_eq_true rfl)⟩⟩ rfl rfl (Nat.le_of_ble_eq_true rfl) dX2_peopleOn_20) (fun r hh n1 hpp => ?_)
        obtain ⟨rfl, hu⟩ := hpp
        cases hu
        refine rx_iload_n C dX2_peopleOn_23 1 rfl ?_
        refine rx_icmp_ne C dX2_peopleOn_24 30 (by decide) (fun c4 => ?_) (fun c4 => ?_)
        · rw [if_neg c4] at hF
          refine rx_iinc C dX2_peopleOn_30 3 rfl (x3 + 1) rfl (by decide) [(3, .int ((x3 + 1))), (0, .ref q), (1, .int x1), (2, .int x2)] rfl ?_
          refine rx_goto C dX2_peopleOn_33 4 (by decide) ?_
          refine rx_sub [1, 2, 3, 0] rfl ?_
          exact ih_loop2 _ _ _ hF b_p b_st KK
        · rw [if_pos c4] at hF
          refine rx_iinc C dX2_peopleOn_27 2 rfl (x2 + 1) rfl (by decide) [(2, .int ((x2 + 1))), (0, .ref q), (1, .int x1), (3, .int x3)] rfl ?_
          refine rx_iinc C dX2_peopleOn_30 3 rfl (x3 + 1) rfl (by decide) [(3, .int ((x3 + 1))), (2, .int ((x2 + 1))), (0, .ref q), (1, .int x1)] rfl ?_
          refine rx_goto C dX2_peopleOn_33 4 (by decide) ?_
          refine rx_sub [2, 3, 1, 0] rfl ?_
          exact ih_loop2 _ _ _ hF b_p b_st KK
  refine rx_sub [2, 3, 1, 0] rfl ?_
  replace hF := rx_biE hF; obtain ⟨zl5, e_zl5, hF⟩ := hF
  refine loop2 _ zl5 _ _ e_zl5 b_p b_st ?_
  refine rx_iload_n C dX2_peopleOn_36 2 rfl ?_
  obtain rfl := Option.some.inj hF
  exact rx_iret C dX2_peopleOn_37 (Nat.le_refl _) (Nat.le_refl _) ⟨rfl, rfl⟩
def F_X2_wearerOf_2 (op : ob) (ost : ob) (x1 : Int32) : Nat → Int32 → Option (Int32)
  | 0, _ => none
  | fu + 1, x2 => if (ost.1 4) ≤ x2 then (some ((-1 : Int32))) else (if (rx_at 10 (op.2 8) x2) = x1 then (some x2) else (F_X2_wearerOf_2 op ost x1 fu ((x2 + 1))))
def F_X2_wearerOf (op : ob) (ost : ob) (x1 : Int32) : Option (Int32) := F_X2_wearerOf_2 op ost x1 100000 ((0 : Int32))
set_option maxRecDepth 100000 in
set_option maxHeartbeats 4000000 in
theorem w_X2_wearerOf {q g : Nat} {op : ob} {ost : ob} {x1 : Int32} {y : Int32} (hF : F_X2_wearerOf op ost x1 = some y) (b_p : bP k q g op h) (b_st : bS k g ost h) (hd0 : q + 16 ≤ g ∨ g + 9 ≤ q) : Met l yX2_wearerOf (rx_ws yX2_wearerOf cX2_wearerOf 3 (some .int)) (rx_rm 1 21) (va_Pc [.ref q, .int x1] (rx_G G k h n)) (va_Qi (fun r u => y = r ∧ u = (h, n)) (rx_B G k) (rx_A k)) 0 0 (rx_A k) := by
  refine rx_start [(0, .ref q), (1, .int x1)] rfl (Nat.le_of_ble_eq_true rfl) (by decide) rfl (fun P9 E9 S9 M9 A9 B9 me9 c9 C hname => ?_)
  unfold F_X2_wearerOf at hF
  refine rx_iconst C dX2_wearerOf_0 (0 : Int32) (by decide) ?_
  refine rx_istore_n C dX2_wearerOf_1 (by decide) [(2, .int ((0 : Int32))), (0, .ref q), (1, .int x1)] rfl ?_
  have loop2 : ∀ (fu : Nat)  (x2 : Int32), F_X2_wearerOf_2 op ost x1 fu x2 = some y → bP k q g op h → bS k g ost h → rx_W P9 l E9 (rx_rm 1 21) S9 M9 A9 B9 me9 c9 (MQ B9 (va_Qi (fun r u => y = r ∧ u = (h, n)) (rx_B G k) (rx_A k)) A9 S9 0 0 (rx_A k)) G k 3 0 0 h n 2 [(0, .ref q), (1, .int x1), (2, .int x2)] [] := by
    intro fu
    induction fu with
    | zero => intro x2 hF b_p b_st; exact absurd hF (by simp [F_X2_wearerOf_2])
    | succ fu ih_loop2 =>
      intro x2 hF b_p b_st
      unfold F_X2_wearerOf_2 at hF
      refine rx_iload_n C dX2_wearerOf_2 2 rfl ?_
      refine rx_aload_n C dX2_wearerOf_3 0 rfl ?_
      refine rx_getf C f_X2_49 dX2_wearerOf_4 b_p.1 rfl ?_
      refine rx_getfN C f_X2_88 dX2_wearerOf_7 b_st.1 rfl ?_
      refine rx_icmp_ge C dX2_wearerOf_10 33 (by decide) (fun c3 => ?_) (fun c3 => ?_)
      · rw [if_pos c3] at hF
        refine rx_iconst C dX2_wearerOf_33 (-1 : Int32) (by decide) ?_
        obtain rfl := Option.some.inj hF
        exact rx_iret C dX2_wearerOf_34 (Nat.le_refl _) (Nat.le_refl _) ⟨rfl, rfl⟩
      · rw [if_neg c3] at hF
        refine rx_aload_n C dX2_wearerOf_13 0 rfl ?_
        refine rx_getf C f_X2_24 dX2_wearerOf_14 b_p.1 rfl ?_
        refine rx_iload_n C dX2_wearerOf_17 2 rfl ?_
        refine rx_ci (rx_rSN C (w_at b_p.2.2.2.2.2.1 (by decide)) Y_X8_at S_X8_at m_X2_91 ⟨⟨rfl, rfl⟩, ⟨(Nat.le_of_ble_eq_true rfl), (Nat.le_of_ble_eq_true rfl)⟩, ⟨(Nat.le_of_ble_eq_true rfl), (Nat.le_of_ble_eq_true rfl)⟩⟩ rfl rfl (Nat.le_of_ble_eq_true rfl) dX2_wearerOf_18) (fun r hh n1 hpp => ?_)
        obtain ⟨rfl, hu⟩ := hpp
        cases hu
        refine rx_iload_n C dX2_wearerOf_21 1 rfl ?_
        refine rx_icmp_ne C dX2_wearerOf_22 27 (by decide) (fun c4 => ?_) (fun c4 => ?_)
        · rw [if_neg c4] at hF
          refine rx_iinc C dX2_wearerOf_27 2 rfl (x2 + 1) rfl (by decide) [(2, .int ((x2 + 1))), (0, .ref q), (1, .int x1)] rfl ?_
          refine rx_goto C dX2_wearerOf_30 2 (by decide) ?_
          refine rx_sub [1, 2, 0] rfl ?_
          exact ih_loop2 _ hF b_p b_st
        · rw [if_pos c4] at hF
          refine rx_iload_n C dX2_wearerOf_25 2 rfl ?_
          obtain rfl := Option.some.inj hF
          exact rx_iret C dX2_wearerOf_26 (Nat.le_refl _) (Nat.le_refl _) ⟨rfl, rfl⟩
  refine rx_sub [1, 2, 0] rfl ?_
  exact loop2 _ _ hF b_p b_st
def F_X2_coinsInAll_25 (op : ob) (ost : ob) : Nat → Int32 → Int32 → Option (Int32 × Int32)
  | 0, _, _ => none
  | fu + 1, x1, x2 => if (ost.1 4) ≤ x2 then (some (x1, x2)) else (rx_le ((x1 + (rx_at 10 (op.2 6) x2))) fun v5 => F_X2_coinsInAll_25 op ost fu v5 ((x2 + 1)))
def F_X2_coinsInAll (op : ob) (ost : ob) : Option (Int32) := rx_le ((((op.1 3) + (rx_at 2 (op.2 4) ((0 : Int32)))) + (rx_at 2 (op.2 4) ((1 : Int32))))) fun v1 => (F_X2_coinsInAll_25 op ost 100000 v1 ((0 : Int32))).bind fun zl6 => some zl6.1
set_option maxRecDepth 100000 in
set_option maxHeartbeats 4000000 in
theorem w_X2_coinsInAll {q g : Nat} {op : ob} {ost : ob} {y : Int32} (hF : F_X2_coinsInAll op ost = some y) (b_p : bP k q g op h) (b_st : bS k g ost h) (hd0 : q + 16 ≤ g ∨ g + 9 ≤ q) : Met l yX2_coinsInAll (rx_ws yX2_coinsInAll cX2_coinsInAll 3 (some .int)) (rx_rm 1 21) (va_Pc [.ref q] (rx_G G k h n)) (va_Qi (fun r u => y = r ∧ u = (h, n)) (rx_B G k) (rx_A k)) 0 0 (rx_A k) := by
  refine rx_start [(0, .ref q)] rfl (Nat.le_of_ble_eq_true rfl) (by decide) rfl (fun P9 E9 S9 M9 A9 B9 me9 c9 C hname => ?_)
  unfold F_X2_coinsInAll at hF
  refine rx_aload_n C dX2_coinsInAll_0 0 rfl ?_
  refine rx_getf C f_X2_63 dX2_coinsInAll_1 b_p.1 rfl ?_
  refine rx_aload_n C dX2_coinsInAll_4 0 rfl ?_
  refine rx_getf C f_X2_9 dX2_coinsInAll_5 b_p.1 rfl ?_
  refine rx_iconst C dX2_coinsInAll_8 (0 : Int32) (by decide) ?_
  refine rx_ci (rx_rSN C (w_at b_p.2.1 (by decide)) Y_X8_at S_X8_at m_X2_91 ⟨⟨rfl, rfl⟩, ⟨(Nat.le_of_ble_eq_true rfl), (Nat.le_of_ble_eq_true rfl)⟩, ⟨(Nat.le_of_ble_eq_true rfl), (Nat.le_of_ble_eq_true rfl)⟩⟩ rfl rfl (Nat.le_of_ble_eq_true rfl) dX2_coinsInAll_9) (fun r hh n1 hpp => ?_)
  obtain ⟨rfl, hu⟩ := hpp
  cases hu
  refine rx_iadd C dX2_coinsInAll_12 ?_
  refine rx_aload_n C dX2_coinsInAll_13 0 rfl ?_
  refine rx_getf C f_X2_9 dX2_coinsInAll_14 b_p.1 rfl ?_
  refine rx_iconst C dX2_coinsInAll_17 (1 : Int32) (by decide) ?_
  refine rx_ci (rx_rSN C (w_at b_p.2.1 (by decide)) Y_X8_at S_X8_at m_X2_91 ⟨⟨rfl, rfl⟩, ⟨(Nat.le_of_ble_eq_true rfl), (Nat.le_of_ble_eq_true rfl)⟩, ⟨(Nat.le_of_ble_eq_true rfl), (Nat.le_of_ble_eq_true rfl)⟩⟩ rfl rfl (Nat.le_of_ble_eq_true rfl) dX2_coinsInAll_18) (fun r hh n1 hpp => ?_)
  obtain ⟨rfl, hu⟩ := hpp
  cases hu
  refine rx_iadd C dX2_coinsInAll_21 ?_
  replace hF := rx_leE hF; obtain ⟨v1, e_v1, hF⟩ := hF
  rw [e_v1]
  refine rx_istore_n C dX2_coinsInAll_22 (by decide) [(1, .int v1), (0, .ref q)] rfl ?_
  refine rx_iconst C dX2_coinsInAll_23 (0 : Int32) (by decide) ?_
  refine rx_istore_n C dX2_coinsInAll_24 (by decide) [(2, .int ((0 : Int32))), (1, .int v1), (0, .ref q)] rfl ?_
  have loop3 : ∀ (fu : Nat) (zz : Int32 × Int32)  (x1 : Int32) (x2 : Int32), F_X2_coinsInAll_25 op ost fu x1 x2 = some zz → bP k q g op h → bS k g ost h → (rx_W P9 l E9 (rx_rm 1 21) S9 M9 A9 B9 me9 c9 (MQ B9 (va_Qi (fun r u => y = r ∧ u = (h, n)) (rx_B G k) (rx_A k)) A9 S9 0 0 (rx_A k)) G k 3 0 0 h n 53 [(0, .ref q), (1, .int zz.1), (2, .int zz.2)] []) → rx_W P9 l E9 (rx_rm 1 21) S9 M9 A9 B9 me9 c9 (MQ B9 (va_Qi (fun r u => y = r ∧ u = (h, n)) (rx_B G k) (rx_A k)) A9 S9 0 0 (rx_A k)) G k 3 0 0 h n 25 [(0, .ref q), (1, .int x1), (2, .int x2)] [] := by
    intro fu
    induction fu with
    | zero => intro zz x1 x2 hF b_p b_st KK; exact absurd hF (by simp [F_X2_coinsInAll_25])
    | succ fu ih_loop3 =>
      intro zz x1 x2 hF b_p b_st KK
      unfold F_X2_coinsInAll_25 at hF
      refine rx_iload_n C dX2_coinsInAll_25 2 rfl ?_
      refine rx_aload_n C dX2_coinsInAll_26 0 rfl ?_
      refine rx_getf C f_X2_49 dX2_coinsInAll_27 b_p.1 rfl ?_
      refine rx_getfN C f_X2_88 dX2_coinsInAll_30 b_st.1 rfl ?_
      refine rx_icmp_ge C dX2_coinsInAll_33 53 (by decide) (fun c4 => ?_) (fun c4 => ?_)
      · rw [if_pos c4] at hF
        obtain rfl := Option.some.inj hF
        refine rx_sub [0, 1, 2] rfl ?_
        exact KK
      · rw [if_neg c4] at hF
        refine rx_iload_n C dX2_coinsInAll_36 1 rfl ?_
        refine rx_aload_n C dX2_coinsInAll_37 0 rfl ?_
        refine rx_getf C f_X2_18 dX2_coinsInAll_38 b_p.1 rfl ?_
        refine rx_iload_n C dX2_coinsInAll_41 2 rfl ?_
        refine rx_ci (rx_rSN C (w_at b_p.2.2.2.1 (by decide)) Y_X8_at S_X8_at m_X2_91 ⟨⟨rfl, rfl⟩, ⟨(Nat.le_of_ble_eq_true rfl), (Nat.le_of_ble_eq_true rfl)⟩, ⟨(Nat.le_of_ble_eq_true rfl), (Nat.le_of_ble_eq_true rfl)⟩⟩ rfl rfl (Nat.le_of_ble_eq_true rfl) dX2_coinsInAll_42) (fun r hh n1 hpp => ?_)
        obtain ⟨rfl, hu⟩ := hpp
        cases hu
        refine rx_iadd C dX2_coinsInAll_45 ?_
        replace hF := rx_leE hF; obtain ⟨v5, e_v5, hF⟩ := hF
        rw [e_v5]
        refine rx_istore_n C dX2_coinsInAll_46 (by decide) [(1, .int v5), (0, .ref q), (2, .int x2)] rfl ?_
        refine rx_iinc C dX2_coinsInAll_47 2 rfl (x2 + 1) rfl (by decide) [(2, .int ((x2 + 1))), (1, .int v5), (0, .ref q)] rfl ?_
        refine rx_goto C dX2_coinsInAll_50 25 (by decide) ?_
        refine rx_sub [2, 1, 0] rfl ?_
        exact ih_loop3 _ _ _ hF b_p b_st KK
  refine rx_sub [2, 1, 0] rfl ?_
  replace hF := rx_biE hF; obtain ⟨zl6, e_zl6, hF⟩ := hF
  refine loop3 _ zl6 _ _ e_zl6 b_p b_st ?_
  refine rx_iload_n C dX2_coinsInAll_53 1 rfl ?_
  obtain rfl := Option.some.inj hF
  exact rx_iret C dX2_coinsInAll_54 (Nat.le_refl _) (Nat.le_refl _) ⟨rfl, rfl⟩
def F_X2_keeperAngleIn (op : ob) (ost : ob) (x1 : Int32) (x2 : Int32) : Option (Int32) := (F_X2_angleOf ((((80 : Int32) - (rx_at 10 (ost.2 10) x2)) - (rx_at 10 (op.2 7) x1))) ((rx_at 10 (ost.2 6) x1))).bind fun y1 => some y1
set_option maxRecDepth 100000 in
set_option maxHeartbeats 4000000 in
theorem w_X2_keeperAngleIn {q g : Nat} {op : ob} {ost : ob} {x1 : Int32} {x2 : Int32} {y : Int32} (hF : F_X2_keeperAngleIn op ost x1 x2 = some y) (b_p : bP k q g op h) (b_st : bS k g ost h) (hd0 : q + 16 ≤ g ∨ g + 9 ≤ q) : Met l yX2_keeperAngleIn (rx_ws yX2_keeperAngleIn cX2_keeperAngleIn 3 (some .int)) (rx_rm 1 22) (va_Pc [.ref q, .int x1, .int x2] (rx_G G k h n)) (va_Qi (fun r u => y = r ∧ u = (h, n)) (rx_B G k) (rx_A k)) 0 0 (rx_A k) := by
  refine rx_start [(0, .ref q), (1, .int x1), (2, .int x2)] rfl (Nat.le_of_ble_eq_true rfl) (by decide) rfl (fun P9 E9 S9 M9 A9 B9 me9 c9 C hname => ?_)
  unfold F_X2_keeperAngleIn at hF
  refine rx_bipush C dX2_keeperAngleIn_0 (80 : Int32) (by decide) ?_
  refine rx_aload_n C dX2_keeperAngleIn_2 0 rfl ?_
  refine rx_getf C f_X2_49 dX2_keeperAngleIn_3 b_p.1 rfl ?_
  refine rx_getfN C f_X2_95 dX2_keeperAngleIn_6 b_st.1 rfl ?_
  refine rx_iload_n C dX2_keeperAngleIn_9 2 rfl ?_
  refine rx_ci (rx_rSN C (w_at b_st.2.2.2.2.2.1 (by decide)) Y_X8_at S_X8_at m_X2_91 ⟨⟨rfl, rfl⟩, ⟨(Nat.le_of_ble_eq_true rfl), (Nat.le_of_ble_eq_true rfl)⟩, ⟨(Nat.le_of_ble_eq_true rfl), (Nat.le_of_ble_eq_true rfl)⟩⟩ rfl rfl (Nat.le_of_ble_eq_true rfl) dX2_keeperAngleIn_10) (fun r hh n1 hpp => ?_)
  obtain ⟨rfl, hu⟩ := hpp
  cases hu
  refine rx_isub C dX2_keeperAngleIn_13 ?_
  refine rx_aload_n C dX2_keeperAngleIn_14 0 rfl ?_
  refine rx_getf C f_X2_21 dX2_keeperAngleIn_15 b_p.1 rfl ?_
  refine rx_iload_n C dX2_keeperAngleIn_18 1 rfl ?_
  refine rx_ci (rx_rSN C (w_at b_p.2.2.2.2.1 (by decide)) Y_X8_at S_X8_at m_X2_91 ⟨⟨rfl, rfl⟩, ⟨(Nat.le_of_ble_eq_true rfl), (Nat.le_of_ble_eq_true rfl)⟩, ⟨(Nat.le_of_ble_eq_true rfl), (Nat.le_of_ble_eq_true rfl)⟩⟩ rfl rfl (Nat.le_of_ble_eq_true rfl) dX2_keeperAngleIn_19) (fun r hh n1 hpp => ?_)
  obtain ⟨rfl, hu⟩ := hpp
  cases hu
  refine rx_isub C dX2_keeperAngleIn_22 ?_
  refine rx_aload_n C dX2_keeperAngleIn_23 0 rfl ?_
  refine rx_getf C f_X2_49 dX2_keeperAngleIn_24 b_p.1 rfl ?_
  refine rx_getfN C f_X2_98 dX2_keeperAngleIn_27 b_st.1 rfl ?_
  refine rx_iload_n C dX2_keeperAngleIn_30 1 rfl ?_
  refine rx_ci (rx_rSN C (w_at b_st.2.1 (by decide)) Y_X8_at S_X8_at m_X2_91 ⟨⟨rfl, rfl⟩, ⟨(Nat.le_of_ble_eq_true rfl), (Nat.le_of_ble_eq_true rfl)⟩, ⟨(Nat.le_of_ble_eq_true rfl), (Nat.le_of_ble_eq_true rfl)⟩⟩ rfl rfl (Nat.le_of_ble_eq_true rfl) dX2_keeperAngleIn_31) (fun r hh n1 hpp => ?_)
  obtain ⟨rfl, hu⟩ := hpp
  cases hu
  replace hF := rx_biE hF; obtain ⟨y1, e_y1, hF⟩ := hF
  refine rx_ci (rx_rS C (w_X2_angleOf e_y1 ) Y_X2_angleOf S_X2_angleOf m_X2_101 ⟨⟨rfl, rfl⟩, ⟨(Nat.le_of_ble_eq_true rfl), (Nat.le_of_ble_eq_true rfl)⟩, ⟨(Nat.le_of_ble_eq_true rfl), (Nat.le_of_ble_eq_true rfl)⟩⟩ rfl rfl (Nat.le_of_ble_eq_true rfl) dX2_keeperAngleIn_34) (fun r hh n1 hpp => ?_)
  obtain ⟨rfl, hu⟩ := hpp
  cases hu
  obtain rfl := Option.some.inj hF
  exact rx_iret C dX2_keeperAngleIn_37 (Nat.le_refl _) (Nat.le_refl _) ⟨rfl, rfl⟩
def F_X2_offerOf (op : ob) (ow : ob) (oe : ob) (x1 : Int32) : Option (Int32) := if (rx_at 10 (op.2 5) x1) = (1 : Int32) then ((F_X3_placeOf oe x1).bind fun y2 => (F_X3_offerAt oe y2).bind fun y3 => some y3) else ((F_X3_placeOf ow x1).bind fun y4 => (F_X3_offerAt ow y4).bind fun y5 => some y5)
set_option maxRecDepth 100000 in
set_option maxHeartbeats 4000000 in
theorem w_X2_offerOf {q g : Nat} {op : ob} {ow : ob} {oe : ob} {x1 : Int32} {y : Int32} (hF : F_X2_offerOf op ow oe x1 = some y) (b_p : bP k q g op h) (b_w : bQ k (q + 10) ow h) (b_e : bQ k (q + 13) oe h) : Met l yX2_offerOf (rx_ws yX2_offerOf cX2_offerOf 3 (some .int)) (rx_rm 2 43) (va_Pc [.ref q, .int x1] (rx_G G k h n)) (va_Qi (fun r u => y = r ∧ u = (h, n)) (rx_B G k) (rx_A k)) 0 0 (rx_A k) := by
  refine rx_start [(0, .ref q), (1, .int x1)] rfl (Nat.le_of_ble_eq_true rfl) (by decide) rfl (fun P9 E9 S9 M9 A9 B9 me9 c9 C hname => ?_)
  unfold F_X2_offerOf at hF
  refine rx_aload_n C dX2_offerOf_0 0 rfl ?_
  refine rx_aload_n C dX2_offerOf_1 0 rfl ?_
  refine rx_getf C f_X2_15 dX2_offerOf_2 b_p.1 rfl ?_
  refine rx_iload_n C dX2_offerOf_5 1 rfl ?_
  refine rx_ci (rx_rSN C (w_at b_p.2.2.1 (by decide)) Y_X8_at S_X8_at m_X2_91 ⟨⟨rfl, rfl⟩, ⟨(Nat.le_of_ble_eq_true rfl), (Nat.le_of_ble_eq_true rfl)⟩, ⟨(Nat.le_of_ble_eq_true rfl), (Nat.le_of_ble_eq_true rfl)⟩⟩ rfl rfl (Nat.le_of_ble_eq_true rfl) dX2_offerOf_6) (fun r hh n1 hpp => ?_)
  obtain ⟨rfl, hu⟩ := hpp
  cases hu
  refine rx_cq (rx_rV C (w_queueOn b_p.1) Y_X2_queueOn V_X2_queueOn m_X2_122 (Or.inl ⟨_, _, _, _, b_p.1, rfl⟩) ⟨⟨rfl, rfl⟩, ⟨(Nat.le_of_ble_eq_true rfl), (Nat.le_of_ble_eq_true rfl)⟩, ⟨(Nat.le_of_ble_eq_true rfl), (Nat.le_of_ble_eq_true rfl)⟩⟩ rfl rfl (Nat.le_of_ble_eq_true rfl) dX2_offerOf_9) (fun r hh n1 hpp => ?_)
  obtain ⟨rfl, hu⟩ := hpp
  cases hu
  by_cases c1 : (rx_at 10 (op.2 5) x1) = (1 : Int32)
  · rw [if_pos c1] at hF ⊢
    show rx_W _ _ _ _ _ _ _ _ _ _ _ _ _ _ _ _ _ _ _ _ (.ref (q + 13) :: _)
    refine rx_astore_n C dX2_offerOf_12 (by decide) [(2, .ref (q + 13)), (0, .ref q), (1, .int x1)] rfl ?_
    refine rx_aload_n C dX2_offerOf_13 0 rfl ?_
    refine rx_aload_n C dX2_offerOf_14 0 rfl ?_
    refine rx_iload_n C dX2_offerOf_15 2 rfl ?_
    replace hF := rx_biE hF; obtain ⟨y2, e_y2, hF⟩ := hF
    refine rx_ci (rx_rVN C (w_X3_placeOf e_y2 b_e) Y_X3_placeOf V_X3_placeOf m_X2_126 (Or.inl ⟨_, _, _, _, b_e.1, rfl⟩) ⟨⟨rfl, rfl⟩, ⟨(Nat.le_of_ble_eq_true rfl), (Nat.le_of_ble_eq_true rfl)⟩, ⟨(Nat.le_of_ble_eq_true rfl), (Nat.le_of_ble_eq_true rfl)⟩⟩ rfl rfl (Nat.le_of_ble_eq_true rfl) dX2_offerOf_16) (fun r hh n1 hpp => ?_)
    obtain ⟨rfl, hu⟩ := hpp
    cases hu
    replace hF := rx_biE hF; obtain ⟨y3, e_y3, hF⟩ := hF
    refine rx_ci (rx_rVN C (w_X3_offerAt e_y3 b_e) Y_X3_offerAt V_X3_offerAt m_X2_129 (Or.inl ⟨_, _, _, _, b_e.1, rfl⟩) ⟨⟨rfl, rfl⟩, ⟨(Nat.le_of_ble_eq_true rfl), (Nat.le_of_ble_eq_true rfl)⟩, ⟨(Nat.le_of_ble_eq_true rfl), (Nat.le_of_ble_eq_true rfl)⟩⟩ rfl rfl (Nat.le_of_ble_eq_true rfl) dX2_offerOf_19) (fun r hh n1 hpp => ?_)
    obtain ⟨rfl, hu⟩ := hpp
    cases hu
    obtain rfl := Option.some.inj hF
    exact rx_iret C dX2_offerOf_22 (Nat.le_refl _) (Nat.le_refl _) ⟨rfl, rfl⟩
  · rw [if_neg c1] at hF ⊢
    show rx_W _ _ _ _ _ _ _ _ _ _ _ _ _ _ _ _ _ _ _ _ (.ref (q + 10) :: _)
    refine rx_astore_n C dX2_offerOf_12 (by decide) [(2, .ref (q + 10)), (0, .ref q), (1, .int x1)] rfl ?_
    refine rx_aload_n C dX2_offerOf_13 0 rfl ?_
    refine rx_aload_n C dX2_offerOf_14 0 rfl ?_
    refine rx_iload_n C dX2_offerOf_15 2 rfl ?_
    replace hF := rx_biE hF; obtain ⟨y4, e_y4, hF⟩ := hF
    refine rx_ci (rx_rVN C (w_X3_placeOf e_y4 b_w) Y_X3_placeOf V_X3_placeOf m_X2_126 (Or.inl ⟨_, _, _, _, b_w.1, rfl⟩) ⟨⟨rfl, rfl⟩, ⟨(Nat.le_of_ble_eq_true rfl), (Nat.le_of_ble_eq_true rfl)⟩, ⟨(Nat.le_of_ble_eq_true rfl), (Nat.le_of_ble_eq_true rfl)⟩⟩ rfl rfl (Nat.le_of_ble_eq_true rfl) dX2_offerOf_16) (fun r hh n1 hpp => ?_)
    obtain ⟨rfl, hu⟩ := hpp
    cases hu
    replace hF := rx_biE hF; obtain ⟨y5, e_y5, hF⟩ := hF
    refine rx_ci (rx_rVN C (w_X3_offerAt e_y5 b_w) Y_X3_offerAt V_X3_offerAt m_X2_129 (Or.inl ⟨_, _, _, _, b_w.1, rfl⟩) ⟨⟨rfl, rfl⟩, ⟨(Nat.le_of_ble_eq_true rfl), (Nat.le_of_ble_eq_true rfl)⟩, ⟨(Nat.le_of_ble_eq_true rfl), (Nat.le_of_ble_eq_true rfl)⟩⟩ rfl rfl (Nat.le_of_ble_eq_true rfl) dX2_offerOf_19) (fun r hh n1 hpp => ?_)
    obtain ⟨rfl, hu⟩ := hpp
    cases hu
    obtain rfl := Option.some.inj hF
    exact rx_iret C dX2_offerOf_22 (Nat.le_refl _) (Nat.le_refl _) ⟨rfl, rfl⟩
def F_X2_departureBank (op : ob) : Option (Int32) := if ((op.1 1) - (op.1 1) / (2 : Int32) * (2 : Int32)) = (0 : Int32) then (some ((0 : Int32))) else (some ((1 : Int32)))
set_option maxRecDepth 100000 in
set_option maxHeartbeats 4000000 in
theorem w_X2_departureBank {q g : Nat} {op : ob} {y : Int32} (hF : F_X2_departureBank op = some y) (b_p : bP k q g op h) : Met l yX2_departureBank (rx_ws yX2_departureBank cX2_departureBank 1 (some .int)) (rx_rm 0 0) (va_Pc [.ref q] (rx_G G k h n)) (va_Qi (fun r u => y = r ∧ u = (h, n)) (rx_B G k) (rx_A k)) 0 0 (rx_A k) := by
  refine rx_start [(0, .ref q)] rfl (Nat.le_of_ble_eq_true rfl) (by decide) rfl (fun P9 E9 S9 M9 A9 B9 me9 c9 C hname => ?_)
  unfold F_X2_departureBank at hF
  refine rx_aload_n C dX2_departureBank_0 0 rfl ?_
  refine rx_getf C f_X2_53 dX2_departureBank_1 b_p.1 rfl ?_
  refine rx_iconst C dX2_departureBank_4 (2 : Int32) (by decide) ?_
  refine rx_irem C dX2_departureBank_5 (by decide) ?_
  refine rx_if_ne C dX2_departureBank_6 13 (by decide) (fun c1 => ?_) (fun c1 => ?_)
  · rw [if_neg c1] at hF
    refine rx_iconst C dX2_departureBank_13 (1 : Int32) (by decide) ?_
    obtain rfl := Option.some.inj hF
    exact rx_iret C dX2_departureBank_14 (Nat.le_refl _) (Nat.le_refl _) ⟨rfl, rfl⟩
  · rw [if_pos c1] at hF
    refine rx_iconst C dX2_departureBank_9 (0 : Int32) (by decide) ?_
    refine rx_goto C dX2_departureBank_10 14 (by decide) ?_
    obtain rfl := Option.some.inj hF
    exact rx_iret C dX2_departureBank_14 (Nat.le_refl _) (Nat.le_refl _) ⟨rfl, rfl⟩
def F_X2_learn (op : ob) (ost : ob) (x1 : Int32) (x2 : Int32) : Option (ob) := if x1 = (0 : Int32) then (if x1 = (0 : Int32) then (if x2 = (0 : Int32) then (some op) else (rx_le (if ((op.1 2) + (ost.1 1)) < (90 : Int32) then ((op.1 2) + (ost.1 1)) else (90 : Int32)) fun v4 => rx_le (upd op.1 2 v4, op.2) fun o_p_5 => some o_p_5)) else (some op)) else (if x2 = (0 : Int32) then (rx_le (if (0 : Int32) < ((op.1 2) - (ost.1 1)) then ((op.1 2) - (ost.1 1)) else (0 : Int32)) fun v11 => rx_le (upd op.1 2 v11, op.2) fun o_p_12 => some o_p_12) else (if x1 = (0 : Int32) then (if x2 = (0 : Int32) then (some op) else (rx_le (if ((op.1 2) + (ost.1 1)) < (90 : Int32) then ((op.1 2) + (ost.1 1)) else (90 : Int32)) fun v9 => rx_le (upd op.1 2 v9, op.2) fun o_p_10 => some o_p_10)) else (some op)))
set_option maxRecDepth 100000 in
set_option maxHeartbeats 4000000 in
theorem w_X2_learn {q g : Nat} {op : ob} {ost : ob} {x1 : Int32} {x2 : Int32} {y : ob} (hF : F_X2_learn op ost x1 x2 = some y) (b_p : bP k q g op h) (b_st : bS k g ost h) (hd0 : q + 16 ≤ g ∨ g + 9 ≤ q) : Met l yX2_learn (rx_ws yX2_learn cX2_learn 3 none) (rx_rm 1 21) (va_Pc [.ref q, .int x1, .int x2] (rx_G G k h n)) (va_Qv (fun u => u.2 = n ∧ bP k q g y u.1 ∧ rx_fr [(q, 10)] h u.1) (rx_B G k) (rx_A k)) 0 0 (rx_A k) := by
  have s_st_p : g + 9 ≤ q ∨ q + 10 ≤ g := by omega
  refine rx_start [(0, .ref q), (1, .int x1), (2, .int x2)] rfl (Nat.le_of_ble_eq_true rfl) (by decide) rfl (fun P9 E9 S9 M9 A9 B9 me9 c9 C hname => ?_)
  unfold F_X2_learn at hF
  have fr : rx_fr [(q, 10)] h h := rx_fr0
  refine rx_iload_n C dX2_learn_0 1 rfl ?_
  refine rx_if_eq C dX2_learn_1 31 (by decide) (fun c1 => ?_) (fun c1 => ?_)
  · rw [if_pos c1] at hF
    refine rx_iload_n C dX2_learn_31 1 rfl ?_
    refine rx_if_ne C dX2_learn_32 60 (by decide) (fun c2 => ?_) (fun c2 => ?_)
    · rw [if_neg c2] at hF
      obtain rfl := Option.some.inj hF
      exact rx_vret C dX2_learn_60 (Nat.le_refl _) (Nat.le_refl _) ⟨rfl, b_p, fr⟩
    · rw [if_pos c2] at hF
      refine rx_iload_n C dX2_learn_35 2 rfl ?_
      refine rx_if_eq C dX2_learn_36 60 (by decide) (fun c3 => ?_) (fun c3 => ?_)
      · rw [if_pos c3] at hF
        obtain rfl := Option.some.inj hF
        exact rx_vret C dX2_learn_60 (Nat.le_refl _) (Nat.le_refl _) ⟨rfl, b_p, fr⟩
      · rw [if_neg c3] at hF
        refine rx_aload_n C dX2_learn_39 0 rfl ?_
        refine rx_bipush C dX2_learn_40 (90 : Int32) (by decide) ?_
        refine rx_aload_n C dX2_learn_42 0 rfl ?_
        refine rx_getf C f_X2_62 dX2_learn_43 b_p.1 rfl ?_
        refine rx_aload_n C dX2_learn_46 0 rfl ?_
        refine rx_getf C f_X2_49 dX2_learn_47 b_p.1 rfl ?_
        refine rx_getfN C f_X2_170 dX2_learn_50 b_st.1 rfl ?_
        refine rx_iadd C dX2_learn_53 ?_
        refine rx_mmin C m_X2_178 (Nat.le_of_ble_eq_true rfl) (Nat.le_of_ble_eq_true rfl) (Nat.le_refl _) (Nat.le_refl _) dX2_learn_54 ?_
        replace hF := rx_leE hF; obtain ⟨v4, e_v4, hF⟩ := hF
        rw [e_v4]
        replace hF := rx_leE hF; obtain ⟨o_p_5, e_o_p_5, hF⟩ := hF
        refine rx_pP2 C f_X2_62 dX2_learn_57 b_p e_o_p_5 (fun hh c_p ff => ?_)
        replace b_p := c_p
        replace b_st := b_st.keep ff ⟨s_st_p, trivial⟩
        replace fr := rx_frt fr ff (fun a ha => ⟨ha.1, trivial⟩)
        obtain rfl := Option.some.inj hF
        exact rx_vret C dX2_learn_60 (Nat.le_refl _) (Nat.le_refl _) ⟨rfl, b_p, fr⟩
  · rw [if_neg c1] at hF
    refine rx_iload_n C dX2_learn_4 2 rfl ?_
    refine rx_if_ne C dX2_learn_5 31 (by decide) (fun c6 => ?_) (fun c6 => ?_)
    · rw [if_neg c6] at hF
      refine rx_iload_n C dX2_learn_31 1 rfl ?_
      refine rx_if_ne C dX2_learn_32 60 (by decide) (fun c7 => ?_) (fun c7 => ?_)
      · rw [if_neg c7] at hF
        obtain rfl := Option.some.inj hF
        exact rx_vret C dX2_learn_60 (Nat.le_refl _) (Nat.le_refl _) ⟨rfl, b_p, fr⟩
      · rw [if_pos c7] at hF
        refine rx_iload_n C dX2_learn_35 2 rfl ?_
        refine rx_if_eq C dX2_learn_36 60 (by decide) (fun c8 => ?_) (fun c8 => ?_)
        · rw [if_pos c8] at hF
          obtain rfl := Option.some.inj hF
          exact rx_vret C dX2_learn_60 (Nat.le_refl _) (Nat.le_refl _) ⟨rfl, b_p, fr⟩
        · rw [if_neg c8] at hF
          refine rx_aload_n C dX2_learn_39 0 rfl ?_
          refine rx_bipush C dX2_learn_40 (90 : Int32) (by decide) ?_
          refine rx_aload_n C dX2_learn_42 0 rfl ?_
          refine rx_getf C f_X2_62 dX2_learn_43 b_p.1 rfl ?_
          refine rx_aload_n C dX2_learn_46 0 rfl ?_
          refine rx_getf C f_X2_49 dX2_learn_47 b_p.1 rfl ?_
          refine rx_getfN C f_X2_170 dX2_learn_50 b_st.1 rfl ?_
          refine rx_iadd C dX2_learn_53 ?_
          refine rx_mmin C m_X2_178 (Nat.le_of_ble_eq_true rfl) (Nat.le_of_ble_eq_true rfl) (Nat.le_refl _) (Nat.le_refl _) dX2_learn_54 ?_
          replace hF := rx_leE hF; obtain ⟨v9, e_v9, hF⟩ := hF
          rw [e_v9]
          replace hF := rx_leE hF; obtain ⟨o_p_10, e_o_p_10, hF⟩ := hF
          refine rx_pP2 C f_X2_62 dX2_learn_57 b_p e_o_p_10 (fun hh c_p ff => ?_)
          replace b_p := c_p
          replace b_st := b_st.keep ff ⟨s_st_p, trivial⟩
          replace fr := rx_frt fr ff (fun a ha => ⟨ha.1, trivial⟩)
          obtain rfl := Option.some.inj hF
          exact rx_vret C dX2_learn_60 (Nat.le_refl _) (Nat.le_refl _) ⟨rfl, b_p, fr⟩
    · rw [if_pos c6] at hF
      refine rx_aload_n C dX2_learn_8 0 rfl ?_
      refine rx_iconst C dX2_learn_9 (0 : Int32) (by decide) ?_
      refine rx_aload_n C dX2_learn_10 0 rfl ?_
      refine rx_getf C f_X2_62 dX2_learn_11 b_p.1 rfl ?_
      refine rx_aload_n C dX2_learn_14 0 rfl ?_
      refine rx_getf C f_X2_49 dX2_learn_15 b_p.1 rfl ?_
      refine rx_getfN C f_X2_170 dX2_learn_18 b_st.1 rfl ?_
      refine rx_isub C dX2_learn_21 ?_
      refine rx_mmax C m_X2_173 (Nat.le_of_ble_eq_true rfl) (Nat.le_of_ble_eq_true rfl) (Nat.le_refl _) (Nat.le_refl _) dX2_learn_22 ?_
      replace hF := rx_leE hF; obtain ⟨v11, e_v11, hF⟩ := hF
      rw [e_v11]
      replace hF := rx_leE hF; obtain ⟨o_p_12, e_o_p_12, hF⟩ := hF
      refine rx_pP2 C f_X2_62 dX2_learn_25 b_p e_o_p_12 (fun hh c_p ff => ?_)
      replace b_p := c_p
      replace b_st := b_st.keep ff ⟨s_st_p, trivial⟩
      replace fr := rx_frt fr ff (fun a ha => ⟨ha.1, trivial⟩)
      refine rx_goto C dX2_learn_28 60 (by decide) ?_
      obtain rfl := Option.some.inj hF
      exact rx_vret C dX2_learn_60 (Nat.le_refl _) (Nat.le_refl _) ⟨rfl, b_p, fr⟩
def F_X2_countRoyalCoinsOf_2 (ost : ob) (x1 : Int32) : Nat → ob → Int32 → Option (Int32 × ob)
  | 0, _, _ => none
  | fu + 1, op, x2 => if (ost.1 4) ≤ x2 then (some (x2, op)) else (if (rx_at 10 (op.2 10) x2) = x1 then (rx_le (op.1, va_up op.2 12 (rx_put 10 (op.2 12) x2 ((1 : Int32)))) fun o_p_5 => F_X2_countRoyalCoinsOf_2 ost x1 fu o_p_5 ((x2 + 1))) else (F_X2_countRoyalCoinsOf_2 ost x1 fu op ((x2 + 1))))
def F_X2_countRoyalCoinsOf (op : ob) (ost : ob) (x1 : Int32) : Option (ob) := (F_X2_countRoyalCoinsOf_2 ost x1 100000 op ((0 : Int32))).bind fun zl6 => some zl6.2
set_option maxRecDepth 100000 in
set_option maxHeartbeats 4000000 in
theorem w_X2_countRoyalCoinsOf {q g : Nat} {op : ob} {ost : ob} {x1 : Int32} {y : ob} (hF : F_X2_countRoyalCoinsOf op ost x1 = some y) (b_p : bP k q g op h) (b_st : bS k g ost h) (hd0 : q + 16 ≤ g ∨ g + 9 ≤ q) : Met l yX2_countRoyalCoinsOf (rx_ws yX2_countRoyalCoinsOf cX2_countRoyalCoinsOf 3 none) (rx_rm 1 22) (va_Pc [.ref q, .int x1] (rx_G G k h n)) (va_Qv (fun u => u.2 = n ∧ bP k q g y u.1 ∧ rx_fr [(q, 10)] h u.1) (rx_B G k) (rx_A k)) 0 0 (rx_A k) := by
  have s_st_p : g + 9 ≤ q ∨ q + 10 ≤ g := by omega
  refine rx_start [(0, .ref q), (1, .int x1)] rfl (Nat.le_of_ble_eq_true rfl) (by decide) rfl (fun P9 E9 S9 M9 A9 B9 me9 c9 C hname => ?_)
  unfold F_X2_countRoyalCoinsOf at hF
  have fr : rx_fr [(q, 10)] h h := rx_fr0
  have b0_p := b_p
  have b0_st := b_st
  refine rx_iconst C dX2_countRoyalCoinsOf_0 (0 : Int32) (by decide) ?_
  refine rx_istore_n C dX2_countRoyalCoinsOf_1 (by decide) [(2, .int ((0 : Int32))), (0, .ref q), (1, .int x1)] rfl ?_
  have loop2 : ∀ (fu : Nat) (zz : Int32 × ob) (op : ob) (x2 : Int32) (hh : hp), F_X2_countRoyalCoinsOf_2 ost x1 fu op x2 = some zz → bP k q g op hh → bS k g ost hh → rx_fr [(q, 10)] h hh → (∀ hh : hp, bP k q g zz.2 hh → rx_fr [(q, 10)] h hh → rx_W P9 l E9 (rx_rm 1 22) S9 M9 A9 B9 me9 c9 (MQ B9 (va_Qv (fun u => u.2 = n ∧ bP k q g y u.1 ∧ rx_fr [(q, 10)] h u.1) (rx_B G k) (rx_A k)) A9 S9 0 0 (rx_A k)) G k 3 0 0 hh n 40 [(0, .ref q), (1, .int x1), (2, .int zz.1)] []) → rx_W P9 l E9 (rx_rm 1 22) S9 M9 A9 B9 me9 c9 (MQ B9 (va_Qv (fun u => u.2 = n ∧ bP k q g y u.1 ∧ rx_fr [(q, 10)] h u.1) (rx_B G k) (rx_A k)) A9 S9 0 0 (rx_A k)) G k 3 0 0 hh n 2 [(0, .ref q), (1, .int x1), (2, .int x2)] [] := by
    intro fu
    induction fu with
    | zero => intro zz op x2 hh hF b_p b_st fr KK; exact absurd hF (by simp [F_X2_countRoyalCoinsOf_2])
    | succ fu ih_loop2 =>
      intro zz op x2 hh hF b_p b_st fr KK
      unfold F_X2_countRoyalCoinsOf_2 at hF
      refine rx_iload_n C dX2_countRoyalCoinsOf_2 2 rfl ?_
      refine rx_aload_n C dX2_countRoyalCoinsOf_3 0 rfl ?_
      refine rx_getf C f_X2_49 dX2_countRoyalCoinsOf_4 b_p.1 rfl ?_
      refine rx_getfN C f_X2_88 dX2_countRoyalCoinsOf_7 b_st.1 rfl ?_
      refine rx_icmp_ge C dX2_countRoyalCoinsOf_10 40 (by decide) (fun c3 => ?_) (fun c3 => ?_)
      · rw [if_pos c3] at hF
        obtain rfl := Option.some.inj hF
        refine rx_sub [0, 1, 2] rfl ?_
        exact KK _ b_p fr
      · rw [if_neg c3] at hF
        refine rx_aload_n C dX2_countRoyalCoinsOf_13 0 rfl ?_
        refine rx_getf C f_X2_30 dX2_countRoyalCoinsOf_14 b_p.1 rfl ?_
        refine rx_iload_n C dX2_countRoyalCoinsOf_17 2 rfl ?_
        refine rx_ci (rx_rSN C (w_at b_p.2.2.2.2.2.2.2.1 (by decide)) Y_X8_at S_X8_at m_X2_91 ⟨⟨rfl, rfl⟩, ⟨(Nat.le_of_ble_eq_true rfl), (Nat.le_of_ble_eq_true rfl)⟩, ⟨(Nat.le_of_ble_eq_true rfl), (Nat.le_of_ble_eq_true rfl)⟩⟩ rfl rfl (Nat.le_of_ble_eq_true rfl) dX2_countRoyalCoinsOf_18) (fun r hh n1 hpp => ?_)
        obtain ⟨rfl, hu⟩ := hpp
        cases hu
        refine rx_iload_n C dX2_countRoyalCoinsOf_21 1 rfl ?_
        refine rx_icmp_ne C dX2_countRoyalCoinsOf_22 34 (by decide) (fun c4 => ?_) (fun c4 => ?_)
        · rw [if_neg c4] at hF
          refine rx_iinc C dX2_countRoyalCoinsOf_34 2 rfl (x2 + 1) rfl (by decide) [(2, .int ((x2 + 1))), (0, .ref q), (1, .int x1)] rfl ?_
          refine rx_goto C dX2_countRoyalCoinsOf_37 2 (by decide) ?_
          refine rx_sub [1, 2, 0] rfl ?_
          exact ih_loop2 _ _ _ _ hF b_p b_st fr KK
        · rw [if_pos c4] at hF
          refine rx_aload_n C dX2_countRoyalCoinsOf_25 0 rfl ?_
          refine rx_getf C f_X2_36 dX2_countRoyalCoinsOf_26 b_p.1 rfl ?_
          refine rx_iload_n C dX2_countRoyalCoinsOf_29 2 rfl ?_
          refine rx_iconst C dX2_countRoyalCoinsOf_30 (1 : Int32) (by decide) ?_
          replace hF := rx_leE hF; obtain ⟨o_p_5, e_o_p_5, hF⟩ := hF
          refine rx_cv (rx_rSN C (w_put b_p.2.2.2.2.2.2.2.2.2 (by decide)) Y_X8_put S_X8_put m_X2_66 ⟨⟨rfl, rfl⟩, ⟨(Nat.le_of_ble_eq_true rfl), (Nat.le_of_ble_eq_true rfl)⟩, ⟨(Nat.le_of_ble_eq_true rfl), (Nat.le_of_ble_eq_true rfl)⟩⟩ rfl rfl (Nat.le_of_ble_eq_true rfl) dX2_countRoyalCoinsOf_31) (fun hh n1 hpp => ?_)
          obtain ⟨c_p, ff, hn⟩ := b_p.wr12 e_o_p_5 hpp
          replace hn := Eq.symm hn
          subst hn
          replace b_p := c_p
          replace b_st := b_st.keep ff ⟨s_st_p, trivial⟩
          replace fr := rx_frt fr ff (fun a ha => ⟨ha.1, trivial⟩)
          refine rx_iinc C dX2_countRoyalCoinsOf_34 2 rfl (x2 + 1) rfl (by decide) [(2, .int ((x2 + 1))), (0, .ref q), (1, .int x1)] rfl ?_
          refine rx_goto C dX2_countRoyalCoinsOf_37 2 (by decide) ?_
          refine rx_sub [1, 2, 0] rfl ?_
          exact ih_loop2 _ _ _ _ hF b_p b_st fr KK
  refine rx_sub [1, 2, 0] rfl ?_
  replace hF := rx_biE hF; obtain ⟨zl6, e_zl6, hF⟩ := hF
  refine loop2 _ zl6 _ _ _ e_zl6 b_p b_st fr (fun hh b_p fr => ?_)
  have b_st := b0_st.keep fr ⟨s_st_p, trivial⟩
  obtain rfl := Option.some.inj hF
  exact rx_vret C dX2_countRoyalCoinsOf_40 (Nat.le_refl _) (Nat.le_refl _) ⟨rfl, b_p, fr⟩
end GEN
