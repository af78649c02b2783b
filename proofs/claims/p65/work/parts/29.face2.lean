section GEN
variable {l : Launch} {G : va_G} {k : Nat → Nat} {h : hp} {n : Nat}
def F_X8_royalHolder (oB : ob) (os : ob) (op : ob) (x1 : Int32) : Option (Int32) := (F_X8_requireKing oB os x1).bind fun y1 => some ((rx_at 10 (op.2 10) x1))
set_option maxRecDepth 100000 in
set_option maxHeartbeats 4000000 in
theorem w_X8_royalHolder {b : Nat} {oB : ob} {os : ob} {op : ob} {x1 : Int32} {y : Int32} (hF : F_X8_royalHolder oB os op x1 = some y) (b_B : bB k b oB h) (b_s : bS k (b + 12) os h) (b_p : bP k (b + 21) (b + 12) op h) : Met l yX8_royalHolder (rx_ws yX8_royalHolder cX8_royalHolder 2 (some .int)) (rx_rm 3 63) (va_Pc [.ref b, .int x1] (rx_G G k h n)) (va_Qi (fun r u => y = r ∧ u = (h, n)) (rx_B G k) (rx_A k)) 0 0 (rx_A k) := by
  refine rx_start [(0, .ref b), (1, .int x1)] rfl (Nat.le_of_ble_eq_true rfl) (by decide) rfl (fun P9 E9 S9 M9 A9 B9 me9 c9 C hname => ?_)
  unfold F_X8_royalHolder at hF
  refine rx_aload_n C dX8_royalHolder_0 0 rfl ?_
  refine rx_iload_n C dX8_royalHolder_1 1 rfl ?_
  replace hF := rx_biE hF; obtain ⟨y1, e_y1, hF⟩ := hF
  refine rx_cv (rx_rV C (w_X8_requireKing e_y1 b_B b_s) Y_X8_requireKing V_X8_requireKing m_X8_211 (Or.inl ⟨_, _, _, _, b_B, rfl⟩) ⟨⟨rfl, rfl⟩, ⟨(Nat.le_of_ble_eq_true rfl), (Nat.le_of_ble_eq_true rfl)⟩, ⟨(Nat.le_of_ble_eq_true rfl), (Nat.le_of_ble_eq_true rfl)⟩⟩ rfl rfl (Nat.le_of_ble_eq_true rfl) dX8_royalHolder_2) (fun hh n1 hpp => ?_)
  have hu := hpp
  cases hu
  refine rx_aload_n C dX8_royalHolder_5 0 rfl ?_
  refine rx_getf C f_X8_31 dX8_royalHolder_6 b_B rfl ?_
  refine rx_getfN C f_X8_214 dX8_royalHolder_9 b_p.1 rfl ?_
  refine rx_iload_n C dX8_royalHolder_12 1 rfl ?_
  refine rx_ci (rx_rS C (w_at b_p.2.2.2.2.2.2.2.1 (by decide)) Y_X8_at S_X8_at m_X8_136 ⟨⟨rfl, rfl⟩, ⟨(Nat.le_of_ble_eq_true rfl), (Nat.le_of_ble_eq_true rfl)⟩, ⟨(Nat.le_of_ble_eq_true rfl), (Nat.le_of_ble_eq_true rfl)⟩⟩ rfl rfl (Nat.le_of_ble_eq_true rfl) dX8_royalHolder_13) (fun r hh n1 hpp => ?_)
  obtain ⟨rfl, hu⟩ := hpp
  cases hu
  obtain rfl := Option.some.inj hF
  exact rx_iret C dX8_royalHolder_16 (Nat.le_refl _) (Nat.le_refl _) ⟨rfl, rfl⟩
def F_X8_isRoyalCoinEast (oB : ob) (os : ob) (op : ob) (x1 : Int32) : Option (Int32) := (F_X8_requireKing oB os x1).bind fun y1 => (F_X2_royalCoinBank op x1).bind fun y2 => if y2 = (1 : Int32) then (some ((1 : Int32))) else (some ((0 : Int32)))
set_option maxRecDepth 100000 in
set_option maxHeartbeats 4000000 in
theorem w_X8_isRoyalCoinEast {b : Nat} {oB : ob} {os : ob} {op : ob} {x1 : Int32} {y : Int32} (hF : F_X8_isRoyalCoinEast oB os op x1 = some y) (b_B : bB k b oB h) (b_s : bS k (b + 12) os h) (b_p : bP k (b + 21) (b + 12) op h) : Met l yX8_isRoyalCoinEast (rx_ws yX8_isRoyalCoinEast cX8_isRoyalCoinEast 2 (some .boolean)) (rx_rm 3 63) (va_Pc [.ref b, .int x1] (rx_G G k h n)) (va_Qi (fun r u => y = r ∧ (y = 0 ∨ y = 1) ∧ u = (h, n)) (rx_B G k) (rx_A k)) 0 0 (rx_A k) := by
  refine rx_start [(0, .ref b), (1, .int x1)] rfl (Nat.le_of_ble_eq_true rfl) (by decide) rfl (fun P9 E9 S9 M9 A9 B9 me9 c9 C hname => ?_)
  unfold F_X8_isRoyalCoinEast at hF
  refine rx_aload_n C dX8_isRoyalCoinEast_0 0 rfl ?_
  refine rx_iload_n C dX8_isRoyalCoinEast_1 1 rfl ?_
  replace hF := rx_biE hF; obtain ⟨y1, e_y1, hF⟩ := hF
  refine rx_cv (rx_rV C (w_X8_requireKing e_y1 b_B b_s) Y_X8_requireKing V_X8_requireKing m_X8_211 (Or.inl ⟨_, _, _, _, b_B, rfl⟩) ⟨⟨rfl, rfl⟩, ⟨(Nat.le_of_ble_eq_true rfl), (Nat.le_of_ble_eq_true rfl)⟩, ⟨(Nat.le_of_ble_eq_true rfl), (Nat.le_of_ble_eq_true rfl)⟩⟩ rfl rfl (Nat.le_of_ble_eq_true rfl) dX8_isRoyalCoinEast_2) (fun hh n1 hpp => ?_)
  have hu := hpp
  cases hu
  refine rx_aload_n C dX8_isRoyalCoinEast_5 0 rfl ?_
  refine rx_getf C f_X8_31 dX8_isRoyalCoinEast_6 b_B rfl ?_
  refine rx_iload_n C dX8_isRoyalCoinEast_9 1 rfl ?_
  replace hF := rx_biE hF; obtain ⟨y2, e_y2, hF⟩ := hF
  refine rx_ci (rx_rVN C (w_X2_royalCoinBank e_y2 b_p) Y_X2_royalCoinBank V_X2_royalCoinBank m_X8_217 (Or.inl ⟨_, _, _, _, b_p.1, rfl⟩) ⟨⟨rfl, rfl⟩, ⟨(Nat.le_of_ble_eq_true rfl), (Nat.le_of_ble_eq_true rfl)⟩, ⟨(Nat.le_of_ble_eq_true rfl), (Nat.le_of_ble_eq_true rfl)⟩⟩ rfl rfl (Nat.le_of_ble_eq_true rfl) dX8_isRoyalCoinEast_10) (fun r hh n1 hpp => ?_)
  obtain ⟨rfl, hu⟩ := hpp
  cases hu
  refine rx_iconst C dX8_isRoyalCoinEast_13 (1 : Int32) (by decide) ?_
  refine rx_icmp_ne C dX8_isRoyalCoinEast_14 21 (by decide) (fun c3 => ?_) (fun c3 => ?_)
  · rw [if_neg c3] at hF
    refine rx_iconst C dX8_isRoyalCoinEast_21 (0 : Int32) (by decide) ?_
    obtain rfl := Option.some.inj hF
    exact rx_zret C (rx_nz (Or.inl rfl)) dX8_isRoyalCoinEast_22 (Nat.le_refl _) (Nat.le_refl _) ⟨rfl, (Or.inl rfl), rfl⟩
  · rw [if_pos c3] at hF
    refine rx_iconst C dX8_isRoyalCoinEast_17 (1 : Int32) (by decide) ?_
    refine rx_goto C dX8_isRoyalCoinEast_18 22 (by decide) ?_
    obtain rfl := Option.some.inj hF
    exact rx_zret C (rx_nz (Or.inr rfl)) dX8_isRoyalCoinEast_22 (Nat.le_refl _) (Nat.le_refl _) ⟨rfl, (Or.inr rfl), rfl⟩
def F_X8_isCounted (oB : ob) (os : ob) (op : ob) (x1 : Int32) : Option (Int32) := (F_X8_requireKing oB os x1).bind fun y1 => if (rx_at 10 (op.2 12) x1) = (1 : Int32) then (some ((1 : Int32))) else (some ((0 : Int32)))
set_option maxRecDepth 100000 in
set_option maxHeartbeats 4000000 in
theorem w_X8_isCounted {b : Nat} {oB : ob} {os : ob} {op : ob} {x1 : Int32} {y : Int32} (hF : F_X8_isCounted oB os op x1 = some y) (b_B : bB k b oB h) (b_s : bS k (b + 12) os h) (b_p : bP k (b + 21) (b + 12) op h) : Met l yX8_isCounted (rx_ws yX8_isCounted cX8_isCounted 2 (some .boolean)) (rx_rm 3 63) (va_Pc [.ref b, .int x1] (rx_G G k h n)) (va_Qi (fun r u => y = r ∧ (y = 0 ∨ y = 1) ∧ u = (h, n)) (rx_B G k) (rx_A k)) 0 0 (rx_A k) := by
  refine rx_start [(0, .ref b), (1, .int x1)] rfl (Nat.le_of_ble_eq_true rfl) (by decide) rfl (fun P9 E9 S9 M9 A9 B9 me9 c9 C hname => ?_)
  unfold F_X8_isCounted at hF
  refine rx_aload_n C dX8_isCounted_0 0 rfl ?_
  refine rx_iload_n C dX8_isCounted_1 1 rfl ?_
  replace hF := rx_biE hF; obtain ⟨y1, e_y1, hF⟩ := hF
  refine rx_cv (rx_rV C (w_X8_requireKing e_y1 b_B b_s) Y_X8_requireKing V_X8_requireKing m_X8_211 (Or.inl ⟨_, _, _, _, b_B, rfl⟩) ⟨⟨rfl, rfl⟩, ⟨(Nat.le_of_ble_eq_true rfl), (Nat.le_of_ble_eq_true rfl)⟩, ⟨(Nat.le_of_ble_eq_true rfl), (Nat.le_of_ble_eq_true rfl)⟩⟩ rfl rfl (Nat.le_of_ble_eq_true rfl) dX8_isCounted_2) (fun hh n1 hpp => ?_)
  have hu := hpp
  cases hu
  refine rx_aload_n C dX8_isCounted_5 0 rfl ?_
  refine rx_getf C f_X8_31 dX8_isCounted_6 b_B rfl ?_
  refine rx_getfN C f_X8_220 dX8_isCounted_9 b_p.1 rfl ?_
  refine rx_iload_n C dX8_isCounted_12 1 rfl ?_
  refine rx_ci (rx_rS C (w_at b_p.2.2.2.2.2.2.2.2.2 (by decide)) Y_X8_at S_X8_at m_X8_136 ⟨⟨rfl, rfl⟩, ⟨(Nat.le_of_ble_eq_true rfl), (Nat.le_of_ble_eq_true rfl)⟩, ⟨(Nat.le_of_ble_eq_true rfl), (Nat.le_of_ble_eq_true rfl)⟩⟩ rfl rfl (Nat.le_of_ble_eq_true rfl) dX8_isCounted_13) (fun r hh n1 hpp => ?_)
  obtain ⟨rfl, hu⟩ := hpp
  cases hu
  refine rx_iconst C dX8_isCounted_16 (1 : Int32) (by decide) ?_
  refine rx_icmp_ne C dX8_isCounted_17 24 (by decide) (fun c2 => ?_) (fun c2 => ?_)
  · rw [if_neg c2] at hF
    refine rx_iconst C dX8_isCounted_24 (0 : Int32) (by decide) ?_
    obtain rfl := Option.some.inj hF
    exact rx_zret C (rx_nz (Or.inl rfl)) dX8_isCounted_25 (Nat.le_refl _) (Nat.le_refl _) ⟨rfl, (Or.inl rfl), rfl⟩
  · rw [if_pos c2] at hF
    refine rx_iconst C dX8_isCounted_20 (1 : Int32) (by decide) ?_
    refine rx_goto C dX8_isCounted_21 25 (by decide) ?_
    obtain rfl := Option.some.inj hF
    exact rx_zret C (rx_nz (Or.inr rfl)) dX8_isCounted_25 (Nat.le_refl _) (Nat.le_refl _) ⟨rfl, (Or.inr rfl), rfl⟩
def F_X8_royalCoins (oB : ob) (os : ob) (op : ob) (x1 : Int32) : Option (Int32) := (F_X8_requirePerson oB os x1).bind fun y1 => (F_X2_royalCoinsOf op os x1).bind fun y2 => some y2
set_option maxRecDepth 100000 in
set_option maxHeartbeats 4000000 in
theorem w_X8_royalCoins {b : Nat} {oB : ob} {os : ob} {op : ob} {x1 : Int32} {y : Int32} (hF : F_X8_royalCoins oB os op x1 = some y) (b_B : bB k b oB h) (b_s : bS k (b + 12) os h) (b_p : bP k (b + 21) (b + 12) op h) : Met l yX8_royalCoins (rx_ws yX8_royalCoins cX8_royalCoins 2 (some .int)) (rx_rm 2 44) (va_Pc [.ref b, .int x1] (rx_G G k h n)) (va_Qi (fun r u => y = r ∧ u = (h, n)) (rx_B G k) (rx_A k)) 0 0 (rx_A k) := by
  refine rx_start [(0, .ref b), (1, .int x1)] rfl (Nat.le_of_ble_eq_true rfl) (by decide) rfl (fun P9 E9 S9 M9 A9 B9 me9 c9 C hname => ?_)
  unfold F_X8_royalCoins at hF
  refine rx_aload_n C dX8_royalCoins_0 0 rfl ?_
  refine rx_iload_n C dX8_royalCoins_1 1 rfl ?_
  replace hF := rx_biE hF; obtain ⟨y1, e_y1, hF⟩ := hF
  refine rx_cv (rx_rV C (w_X8_requirePerson e_y1 b_B b_s) Y_X8_requirePerson V_X8_requirePerson m_X8_148 (Or.inl ⟨_, _, _, _, b_B, rfl⟩) ⟨⟨rfl, rfl⟩, ⟨(Nat.le_of_ble_eq_true rfl), (Nat.le_of_ble_eq_true rfl)⟩, ⟨(Nat.le_of_ble_eq_true rfl), (Nat.le_of_ble_eq_true rfl)⟩⟩ rfl rfl (Nat.le_of_ble_eq_true rfl) dX8_royalCoins_2) (fun hh n1 hpp => ?_)
  have hu := hpp
  cases hu
  refine rx_aload_n C dX8_royalCoins_5 0 rfl ?_
  refine rx_getf C f_X8_31 dX8_royalCoins_6 b_B rfl ?_
  refine rx_iload_n C dX8_royalCoins_9 1 rfl ?_
  replace hF := rx_biE hF; obtain ⟨y2, e_y2, hF⟩ := hF
  refine rx_ci (rx_rVN C (w_X2_royalCoinsOf e_y2 b_p b_s (by omega)) Y_X2_royalCoinsOf V_X2_royalCoinsOf m_X8_223 (Or.inl ⟨_, _, _, _, b_p.1, rfl⟩) ⟨⟨rfl, rfl⟩, ⟨(Nat.le_of_ble_eq_true rfl), (Nat.le_of_ble_eq_true rfl)⟩, ⟨(Nat.le_of_ble_eq_true rfl), (Nat.le_of_ble_eq_true rfl)⟩⟩ rfl rfl (Nat.le_of_ble_eq_true rfl) dX8_royalCoins_10) (fun r hh n1 hpp => ?_)
  obtain ⟨rfl, hu⟩ := hpp
  cases hu
  obtain rfl := Option.some.inj hF
  exact rx_iret C dX8_royalCoins_13 (Nat.le_refl _) (Nat.le_refl _) ⟨rfl, rfl⟩
def F_X8_countedRoyalCoins (oB : ob) (os : ob) (op : ob) : Option (Int32) := (F_X2_countedInAll op os).bind fun y1 => some y1
set_option maxRecDepth 100000 in
set_option maxHeartbeats 4000000 in
theorem w_X8_countedRoyalCoins {b : Nat} {oB : ob} {os : ob} {op : ob} {y : Int32} (hF : F_X8_countedRoyalCoins oB os op = some y) (b_B : bB k b oB h) (b_s : bS k (b + 12) os h) (b_p : bP k (b + 21) (b + 12) op h) : Met l yX8_countedRoyalCoins (rx_ws yX8_countedRoyalCoins cX8_countedRoyalCoins 1 (some .int)) (rx_rm 2 43) (va_Pc [.ref b] (rx_G G k h n)) (va_Qi (fun r u => y = r ∧ u = (h, n)) (rx_B G k) (rx_A k)) 0 0 (rx_A k) := by
  refine rx_start [(0, .ref b)] rfl (Nat.le_of_ble_eq_true rfl) (by decide) rfl (fun P9 E9 S9 M9 A9 B9 me9 c9 C hname => ?_)
  unfold F_X8_countedRoyalCoins at hF
  refine rx_aload_n C dX8_countedRoyalCoins_0 0 rfl ?_
  refine rx_getf C f_X8_31 dX8_countedRoyalCoins_1 b_B rfl ?_
  replace hF := rx_biE hF; obtain ⟨y1, e_y1, hF⟩ := hF
  refine rx_ci (rx_rVN C (w_X2_countedInAll e_y1 b_p b_s (by omega)) Y_X2_countedInAll V_X2_countedInAll m_X8_226 (Or.inl ⟨_, _, _, _, b_p.1, rfl⟩) ⟨⟨rfl, rfl⟩, ⟨(Nat.le_of_ble_eq_true rfl), (Nat.le_of_ble_eq_true rfl)⟩, ⟨(Nat.le_of_ble_eq_true rfl), (Nat.le_of_ble_eq_true rfl)⟩⟩ rfl rfl (Nat.le_of_ble_eq_true rfl) dX8_countedRoyalCoins_4) (fun r hh n1 hpp => ?_)
  obtain ⟨rfl, hu⟩ := hpp
  cases hu
  obtain rfl := Option.some.inj hF
  exact rx_iret C dX8_countedRoyalCoins_7 (Nat.le_refl _) (Nat.le_refl _) ⟨rfl, rfl⟩
def F_X8_queueLength (oB : ob) (op : ob) (ow : ob) (oe : ob) (x1 : Int32) : Option (Int32) := (F_X8_bankOf x1).bind fun y1 => if y1 = (1 : Int32) then (some ((oe.1 2))) else (some ((ow.1 2)))
set_option maxRecDepth 100000 in
set_option maxHeartbeats 4000000 in
theorem w_X8_queueLength {b : Nat} {oB : ob} {op : ob} {ow : ob} {oe : ob} {x1 : Int32} {y : Int32} (hF : F_X8_queueLength oB op ow oe x1 = some y) (b_B : bB k b oB h) (b_p : bP k (b + 21) (b + 12) op h) (b_w : bQ k (b + 21 + 10) ow h) (b_e : bQ k (b + 21 + 13) oe h) : Met l yX8_queueLength (rx_ws yX8_queueLength cX8_queueLength 2 (some .int)) (rx_rm 1 21) (va_Pc [.ref b, .int x1] (rx_G G k h n)) (va_Qi (fun r u => y = r ∧ u = (h, n)) (rx_B G k) (rx_A k)) 0 0 (rx_A k) := by
  refine rx_start [(0, .ref b), (1, .int x1)] rfl (Nat.le_of_ble_eq_true rfl) (by decide) rfl (fun P9 E9 S9 M9 A9 B9 me9 c9 C hname => ?_)
  unfold F_X8_queueLength at hF
  refine rx_aload_n C dX8_queueLength_0 0 rfl ?_
  refine rx_getf C f_X8_31 dX8_queueLength_1 b_B rfl ?_
  refine rx_iload_n C dX8_queueLength_4 1 rfl ?_
  replace hF := rx_biE hF; obtain ⟨y1, e_y1, hF⟩ := hF
  refine rx_ci (rx_rS C (w_X8_bankOf e_y1 ) Y_X8_bankOf S_X8_bankOf m_X8_132 ⟨⟨rfl, rfl⟩, ⟨(Nat.le_of_ble_eq_true rfl), (Nat.le_of_ble_eq_true rfl)⟩, ⟨(Nat.le_of_ble_eq_true rfl), (Nat.le_of_ble_eq_true rfl)⟩⟩ rfl rfl (Nat.le_of_ble_eq_true rfl) dX8_queueLength_5) (fun r hh n1 hpp => ?_)
  obtain ⟨rfl, hu⟩ := hpp
  cases hu
  refine rx_cq (rx_rVN C (w_queueOn b_p.1) Y_X2_queueOn V_X2_queueOn m_X8_229 (Or.inl ⟨_, _, _, _, b_p.1, rfl⟩) ⟨⟨rfl, rfl⟩, ⟨(Nat.le_of_ble_eq_true rfl), (Nat.le_of_ble_eq_true rfl)⟩, ⟨(Nat.le_of_ble_eq_true rfl), (Nat.le_of_ble_eq_true rfl)⟩⟩ rfl rfl (Nat.le_of_ble_eq_true rfl) dX8_queueLength_8) (fun r hh n1 hpp => ?_)
  obtain ⟨rfl, hu⟩ := hpp
  cases hu
  by_cases c2 : y1 = (1 : Int32)
  · rw [if_pos c2] at hF ⊢
    show rx_W _ _ _ _ _ _ _ _ _ _ _ _ _ _ _ _ _ _ _ _ (.ref (b + 21 + 13) :: _)
    refine rx_getfN C f_X8_233 dX8_queueLength_11 b_e.1 rfl ?_
    obtain rfl := Option.some.inj hF
    exact rx_iret C dX8_queueLength_14 (Nat.le_refl _) (Nat.le_refl _) ⟨rfl, rfl⟩
  · rw [if_neg c2] at hF ⊢
    show rx_W _ _ _ _ _ _ _ _ _ _ _ _ _ _ _ _ _ _ _ _ (.ref (b + 21 + 10) :: _)
    refine rx_getfN C f_X8_233 dX8_queueLength_11 b_w.1 rfl ?_
    obtain rfl := Option.some.inj hF
    exact rx_iret C dX8_queueLength_14 (Nat.le_refl _) (Nat.le_refl _) ⟨rfl, rfl⟩
def F_X8_queued (oB : ob) (op : ob) (ow : ob) (oe : ob) (x1 : Int32) (x2 : Int32) : Option (Int32) := (F_X8_bankOf x1).bind fun y1 => if y1 = (1 : Int32) then ((F_X3_personAt oe x2).bind fun y3 => some y3) else ((F_X3_personAt ow x2).bind fun y4 => some y4)
set_option maxRecDepth 100000 in
set_option maxHeartbeats 4000000 in
theorem w_X8_queued {b : Nat} {oB : ob} {op : ob} {ow : ob} {oe : ob} {x1 : Int32} {x2 : Int32} {y : Int32} (hF : F_X8_queued oB op ow oe x1 x2 = some y) (b_B : bB k b oB h) (b_p : bP k (b + 21) (b + 12) op h) (b_w : bQ k (b + 21 + 10) ow h) (b_e : bQ k (b + 21 + 13) oe h) : Met l yX8_queued (rx_ws yX8_queued cX8_queued 3 (some .int)) (rx_rm 2 42) (va_Pc [.ref b, .int x1, .int x2] (rx_G G k h n)) (va_Qi (fun r u => y = r ∧ u = (h, n)) (rx_B G k) (rx_A k)) 0 0 (rx_A k) := by
  refine rx_start [(0, .ref b), (1, .int x1), (2, .int x2)] rfl (Nat.le_of_ble_eq_true rfl) (by decide) rfl (fun P9 E9 S9 M9 A9 B9 me9 c9 C hname => ?_)
  unfold F_X8_queued at hF
  refine rx_aload_n C dX8_queued_0 0 rfl ?_
  refine rx_getf C f_X8_31 dX8_queued_1 b_B rfl ?_
  refine rx_iload_n C dX8_queued_4 1 rfl ?_
  replace hF := rx_biE hF; obtain ⟨y1, e_y1, hF⟩ := hF
  refine rx_ci (rx_rS C (w_X8_bankOf e_y1 ) Y_X8_bankOf S_X8_bankOf m_X8_132 ⟨⟨rfl, rfl⟩, ⟨(Nat.le_of_ble_eq_true rfl), (Nat.le_of_ble_eq_true rfl)⟩, ⟨(Nat.le_of_ble_eq_true rfl), (Nat.le_of_ble_eq_true rfl)⟩⟩ rfl rfl (Nat.le_of_ble_eq_true rfl) dX8_queued_5) (fun r hh n1 hpp => ?_)
  obtain ⟨rfl, hu⟩ := hpp
  cases hu
  refine rx_cq (rx_rVN C (w_queueOn b_p.1) Y_X2_queueOn V_X2_queueOn m_X8_229 (Or.inl ⟨_, _, _, _, b_p.1, rfl⟩) ⟨⟨rfl, rfl⟩, ⟨(Nat.le_of_ble_eq_true rfl), (Nat.le_of_ble_eq_true rfl)⟩, ⟨(Nat.le_of_ble_eq_true rfl), (Nat.le_of_ble_eq_true rfl)⟩⟩ rfl rfl (Nat.le_of_ble_eq_true rfl) dX8_queued_8) (fun r hh n1 hpp => ?_)
  obtain ⟨rfl, hu⟩ := hpp
  cases hu
  by_cases c2 : y1 = (1 : Int32)
  · rw [if_pos c2] at hF ⊢
    show rx_W _ _ _ _ _ _ _ _ _ _ _ _ _ _ _ _ _ _ _ _ (.ref (b + 21 + 13) :: _)
    refine rx_iload_n C dX8_queued_11 2 rfl ?_
    replace hF := rx_biE hF; obtain ⟨y3, e_y3, hF⟩ := hF
    refine rx_ci (rx_rVN C (w_X3_personAt e_y3 b_e) Y_X3_personAt V_X3_personAt m_X8_238 (Or.inl ⟨_, _, _, _, b_e.1, rfl⟩) ⟨⟨rfl, rfl⟩, ⟨(Nat.le_of_ble_eq_true rfl), (Nat.le_of_ble_eq_true rfl)⟩, ⟨(Nat.le_of_ble_eq_true rfl), (Nat.le_of_ble_eq_true rfl)⟩⟩ rfl rfl (Nat.le_of_ble_eq_true rfl) dX8_queued_12) (fun r hh n1 hpp => ?_)
    obtain ⟨rfl, hu⟩ := hpp
    cases hu
    obtain rfl := Option.some.inj hF
    exact rx_iret C dX8_queued_15 (Nat.le_refl _) (Nat.le_refl _) ⟨rfl, rfl⟩
  · rw [if_neg c2] at hF ⊢
    show rx_W _ _ _ _ _ _ _ _ _ _ _ _ _ _ _ _ _ _ _ _ (.ref (b + 21 + 10) :: _)
    refine rx_iload_n C dX8_queued_11 2 rfl ?_
    replace hF := rx_biE hF; obtain ⟨y4, e_y4, hF⟩ := hF
    refine rx_ci (rx_rVN C (w_X3_personAt e_y4 b_w) Y_X3_personAt V_X3_personAt m_X8_238 (Or.inl ⟨_, _, _, _, b_w.1, rfl⟩) ⟨⟨rfl, rfl⟩, ⟨(Nat.le_of_ble_eq_true rfl), (Nat.le_of_ble_eq_true rfl)⟩, ⟨(Nat.le_of_ble_eq_true rfl), (Nat.le_of_ble_eq_true rfl)⟩⟩ rfl rfl (Nat.le_of_ble_eq_true rfl) dX8_queued_12) (fun r hh n1 hpp => ?_)
    obtain ⟨rfl, hu⟩ := hpp
    cases hu
    obtain rfl := Option.some.inj hF
    exact rx_iret C dX8_queued_15 (Nat.le_refl _) (Nat.le_refl _) ⟨rfl, rfl⟩
def F_X8_offer (oB : ob) (os : ob) (op : ob) (ow : ob) (oe : ob) (x1 : Int32) : Option (Int32) := (F_X8_requirePerson oB os x1).bind fun y1 => (F_X2_offerOf op ow oe x1).bind fun y2 => some y2
set_option maxRecDepth 100000 in
set_option maxHeartbeats 4000000 in
theorem w_X8_offer {b : Nat} {oB : ob} {os : ob} {op : ob} {ow : ob} {oe : ob} {x1 : Int32} {y : Int32} (hF : F_X8_offer oB os op ow oe x1 = some y) (b_B : bB k b oB h) (b_s : bS k (b + 12) os h) (b_p : bP k (b + 21) (b + 12) op h) (b_w : bQ k (b + 21 + 10) ow h) (b_e : bQ k (b + 21 + 13) oe h) : Met l yX8_offer (rx_ws yX8_offer cX8_offer 2 (some .int)) (rx_rm 3 65) (va_Pc [.ref b, .int x1] (rx_G G k h n)) (va_Qi (fun r u => y = r ∧ u = (h, n)) (rx_B G k) (rx_A k)) 0 0 (rx_A k) := by
  refine rx_start [(0, .ref b), (1, .int x1)] rfl (Nat.le_of_ble_eq_true rfl) (by decide) rfl (fun P9 E9 S9 M9 A9 B9 me9 c9 C hname => ?_)
  unfold F_X8_offer at hF
  refine rx_aload_n C dX8_offer_0 0 rfl ?_
  refine rx_iload_n C dX8_offer_1 1 rfl ?_
  replace hF := rx_biE hF; obtain ⟨y1, e_y1, hF⟩ := hF
  refine rx_cv (rx_rV C (w_X8_requirePerson e_y1 b_B b_s) Y_X8_requirePerson V_X8_requirePerson m_X8_148 (Or.inl ⟨_, _, _, _, b_B, rfl⟩) ⟨⟨rfl, rfl⟩, ⟨(Nat.le_of_ble_eq_true rfl), (Nat.le_of_ble_eq_true rfl)⟩, ⟨(Nat.le_of_ble_eq_true rfl), (Nat.le_of_ble_eq_true rfl)⟩⟩ rfl rfl (Nat.le_of_ble_eq_true rfl) dX8_offer_2) (fun hh n1 hpp => ?_)
  have hu := hpp
  cases hu
  refine rx_aload_n C dX8_offer_5 0 rfl ?_
  refine rx_getf C f_X8_31 dX8_offer_6 b_B rfl ?_
  refine rx_iload_n C dX8_offer_9 1 rfl ?_
  replace hF := rx_biE hF; obtain ⟨y2, e_y2, hF⟩ := hF
  refine rx_ci (rx_rVN C (w_X2_offerOf e_y2 b_p b_w b_e) Y_X2_offerOf V_X2_offerOf m_X8_241 (Or.inl ⟨_, _, _, _, b_p.1, rfl⟩) ⟨⟨rfl, rfl⟩, ⟨(Nat.le_of_ble_eq_true rfl), (Nat.le_of_ble_eq_true rfl)⟩, ⟨(Nat.le_of_ble_eq_true rfl), (Nat.le_of_ble_eq_true rfl)⟩⟩ rfl rfl (Nat.le_of_ble_eq_true rfl) dX8_offer_10) (fun r hh n1 hpp => ?_)
  obtain ⟨rfl, hu⟩ := hpp
  cases hu
  obtain rfl := Option.some.inj hF
  exact rx_iret C dX8_offer_13 (Nat.le_refl _) (Nat.le_refl _) ⟨rfl, rfl⟩
def F_X8_coinGap (oB : ob) (os : ob) (op : ob) : Option (Int32) := (F_X2_coinsInAll op os).bind fun y1 => (F_X5_coinsInAll os).bind fun y2 => rx_le (if 0 ≤ (y1 - y2) then (y1 - y2) else 0 - (y1 - y2)) fun v3 => some v3
set_option maxRecDepth 100000 in
set_option maxHeartbeats 4000000 in
theorem w_X8_coinGap {b : Nat} {oB : ob} {os : ob} {op : ob} {y : Int32} (hF : F_X8_coinGap oB os op = some y) (b_B : bB k b oB h) (b_s : bS k (b + 12) os h) (b_p : bP k (b + 21) (b + 12) op h) : Met l yX8_coinGap (rx_ws yX8_coinGap cX8_coinGap 1 (some .int)) (rx_rm 2 43) (va_Pc [.ref b] (rx_G G k h n)) (va_Qi (fun r u => y = r ∧ u = (h, n)) (rx_B G k) (rx_A k)) 0 0 (rx_A k) := by
  refine rx_start [(0, .ref b)] rfl (Nat.le_of_ble_eq_true rfl) (by decide) rfl (fun P9 E9 S9 M9 A9 B9 me9 c9 C hname => ?_)
  unfold F_X8_coinGap at hF
  refine rx_aload_n C dX8_coinGap_0 0 rfl ?_
  refine rx_getf C f_X8_31 dX8_coinGap_1 b_B rfl ?_
  replace hF := rx_biE hF; obtain ⟨y1, e_y1, hF⟩ := hF
  refine rx_ci (rx_rVN C (w_X2_coinsInAll e_y1 b_p b_s (by omega)) Y_X2_coinsInAll V_X2_coinsInAll m_X8_279 (Or.inl ⟨_, _, _, _, b_p.1, rfl⟩) ⟨⟨rfl, rfl⟩, ⟨(Nat.le_of_ble_eq_true rfl), (Nat.le_of_ble_eq_true rfl)⟩, ⟨(Nat.le_of_ble_eq_true rfl), (Nat.le_of_ble_eq_true rfl)⟩⟩ rfl rfl (Nat.le_of_ble_eq_true rfl) dX8_coinGap_4) (fun r hh n1 hpp => ?_)
  obtain ⟨rfl, hu⟩ := hpp
  cases hu
  refine rx_aload_n C dX8_coinGap_7 0 rfl ?_
  refine rx_getf C f_X8_23 dX8_coinGap_8 b_B rfl ?_
  replace hF := rx_biE hF; obtain ⟨y2, e_y2, hF⟩ := hF
  refine rx_ci (rx_rVN C (w_X5_coinsInAll e_y2 b_s) Y_X5_coinsInAll V_X5_coinsInAll m_X8_282 (Or.inl ⟨_, _, _, _, b_s.1, rfl⟩) ⟨⟨rfl, rfl⟩, ⟨(Nat.le_of_ble_eq_true rfl), (Nat.le_of_ble_eq_true rfl)⟩, ⟨(Nat.le_of_ble_eq_true rfl), (Nat.le_of_ble_eq_true rfl)⟩⟩ rfl rfl (Nat.le_of_ble_eq_true rfl) dX8_coinGap_11) (fun r hh n1 hpp => ?_)
  obtain ⟨rfl, hu⟩ := hpp
  cases hu
  refine rx_isub C dX8_coinGap_14 ?_
  refine rx_mabs C m_X8_283 (Nat.le_of_ble_eq_true rfl) (Nat.le_of_ble_eq_true rfl) (Nat.le_refl _) (Nat.le_refl _) dX8_coinGap_15 ?_
  replace hF := rx_leE hF; obtain ⟨v3, e_v3, hF⟩ := hF
  rw [e_v3]
  obtain rfl := Option.some.inj hF
  exact rx_iret C dX8_coinGap_18 (Nat.le_refl _) (Nat.le_refl _) ⟨rfl, rfl⟩
def F_X8_allow (oB : ob) (os : ob) (op : ob) (ow : ob) (oe : ob) (oH : hst) (z1 : Nat) (x2 : Int32) (x3 : Int32) : Option (hst) := (F_X2_faultOf op ow oe os z1 x2 x3).bind fun y1 => if y1 = (1 : Int32) then (none) else (if y1 = (2 : Int32) then (none) else (if y1 = (3 : Int32) then (none) else ((F_X1_push oH op ow oe).bind fun y5 => some y5)))
set_option maxRecDepth 100000 in
set_option maxHeartbeats 4000000 in
theorem w_X8_allow {b : Nat} {oB : ob} {os : ob} {op : ob} {ow : ob} {oe : ob} {oH : hst} {z1 : Nat} {x2 : Int32} {x3 : Int32} {y : hst} (hF : F_X8_allow oB os op ow oe oH z1 x2 x3 = some y) (b_B : bB k b oB h) (b_s : bS k (b + 12) os h) (b_p : bP k (b + 21) (b + 12) op h) (b_w : bQ k (b + 21 + 10) ow h) (b_e : bQ k (b + 21 + 13) oe h) (b_H : bHH k (b + 69) (b + 12) oH h) (hz_z1 : z1 < 9) : Met l yX8_allow (rx_ws yX8_allow cX8_allow 5 none) (rx_rm 5 125) (va_Pc [.ref b, .ref (k (10 + z1)), .int x2, .int x3] (rx_G G k h n)) (va_Qv (fun u => u.2 = n ∧ bHH k (b + 69) (b + 12) y u.1 ∧ rx_fr [(b + 69, 130)] h u.1) (rx_B G k) (rx_A k)) 0 0 (rx_A k) := by
  have s_B_H : b + 1 ≤ b + 69 ∨ b + 69 + 130 ≤ b := by omega
  have s_s_H : b + 12 + 9 ≤ b + 69 ∨ b + 69 + 130 ≤ b + 12 := by omega
  have s_p_H : b + 21 + 10 ≤ b + 69 ∨ b + 69 + 130 ≤ b + 21 := by omega
  have s_w_H : b + 21 + 10 + 3 ≤ b + 69 ∨ b + 69 + 130 ≤ b + 21 + 10 := by omega
  have s_e_H : b + 21 + 13 + 3 ≤ b + 69 ∨ b + 69 + 130 ≤ b + 21 + 13 := by omega
  refine rx_start [(0, .ref b), (1, .ref (k (10 + z1))), (2, .int x2), (3, .int x3)] rfl (Nat.le_of_ble_eq_true rfl) (by decide) rfl (fun P9 E9 S9 M9 A9 B9 me9 c9 C hname => ?_)
  unfold F_X8_allow at hF
  have fr : rx_fr [(b + 69, 130)] h h := rx_fr0
  refine rx_aload_n C dX8_allow_0 0 rfl ?_
  refine rx_getf C f_X8_31 dX8_allow_1 b_B rfl ?_
  refine rx_aload_n C dX8_allow_4 1 rfl ?_
  refine rx_iload_n C dX8_allow_5 2 rfl ?_
  refine rx_iload_n C dX8_allow_6 3 rfl ?_
  replace hF := rx_biE hF; obtain ⟨y1, e_y1, hF⟩ := hF
  refine rx_ci (rx_rVN C (w_X2_faultOf e_y1 b_p b_w b_e b_s hz_z1 (by omega)) Y_X2_faultOf V_X2_faultOf m_X8_396 (Or.inl ⟨_, _, _, _, b_p.1, rfl⟩) ⟨⟨rfl, rfl⟩, ⟨(Nat.le_of_ble_eq_true rfl), (Nat.le_of_ble_eq_true rfl)⟩, ⟨(Nat.le_of_ble_eq_true rfl), (Nat.le_of_ble_eq_true rfl)⟩⟩ rfl rfl (Nat.le_of_ble_eq_true rfl) dX8_allow_7) (fun r hh n1 hpp => ?_)
  obtain ⟨rfl, hu⟩ := hpp
  cases hu
  refine rx_istore C dX8_allow_10 (by decide) [(4, .int y1), (0, .ref b), (1, .ref (k (10 + z1))), (2, .int x2), (3, .int x3)] rfl ?_
  refine rx_iload C dX8_allow_12 0 rfl ?_
  refine rx_iconst C dX8_allow_14 (1 : Int32) (by decide) ?_
  refine rx_icmp_ne C dX8_allow_15 29 (by decide) (fun c2 => ?_) (fun c2 => ?_)
  · rw [if_neg c2] at hF
    refine rx_iload C dX8_allow_29 0 rfl ?_
    refine rx_iconst C dX8_allow_31 (2 : Int32) (by decide) ?_
    refine rx_icmp_ne C dX8_allow_32 46 (by decide) (fun c3 => ?_) (fun c3 => ?_)
    · rw [if_neg c3] at hF
      refine rx_iload C dX8_allow_46 0 rfl ?_
      refine rx_iconst C dX8_allow_48 (3 : Int32) (by decide) ?_
      refine rx_icmp_ne C dX8_allow_49 63 (by decide) (fun c4 => ?_) (fun c4 => ?_)
      · rw [if_neg c4] at hF
        refine rx_aload_n C dX8_allow_63 1 rfl ?_
        refine rx_getf C f_X8_44 dX8_allow_64 b_B rfl ?_
        refine rx_aload_n C dX8_allow_67 1 rfl ?_
        refine rx_getf C f_X8_31 dX8_allow_68 b_B rfl ?_
        replace hF := rx_biE hF; obtain ⟨y5, e_y5, hF⟩ := hF
        refine rx_cv (rx_rVN C (w_X1_push e_y5 b_H b_p b_w b_e (by omega)) Y_X1_push V_X1_push m_X8_351 (Or.inl ⟨_, _, _, _, b_H.1.1, rfl⟩) ⟨⟨rfl, rfl⟩, ⟨(Nat.le_of_ble_eq_true rfl), (Nat.le_of_ble_eq_true rfl)⟩, ⟨(Nat.le_of_ble_eq_true rfl), (Nat.le_of_ble_eq_true rfl)⟩⟩ rfl rfl (Nat.le_of_ble_eq_true rfl) dX8_allow_71) (fun hh n1 hpp => ?_)
        obtain ⟨hn, c_H, ff⟩ := hpp
        replace hn : n = n1 := Eq.symm hn
        subst hn
        replace b_H : bHH k (b + 69) (b + 12) y5 hh := c_H
        clear c_H
        replace ff : rx_fr [(b + 69, 130)] _ hh := ff
        replace b_B := b_B.keep ff ⟨s_B_H, trivial⟩
        replace b_s := b_s.keep ff ⟨s_s_H, trivial⟩
        replace b_p := b_p.keep ff ⟨s_p_H, trivial⟩
        replace b_w := b_w.keep ff ⟨s_w_H, trivial⟩
        replace b_e := b_e.keep ff ⟨s_e_H, trivial⟩
        replace fr := rx_frt fr ff (fun a ha => ⟨ha.1, trivial⟩)
        obtain rfl := Option.some.inj hF
        exact rx_vret C dX8_allow_74 (Nat.le_refl _) (Nat.le_refl _) ⟨rfl, b_H, fr⟩
      · rw [if_pos c4] at hF
        cases hF
    · rw [if_pos c3] at hF
      cases hF
  · rw [if_pos c2] at hF
    cases hF
def F_X8_dropCoins (oB : ob) (os : ob) (op : ob) (ow : ob) (oe : ob) (oH : hst) (x1 : Int32) (x2 : Int32) : Option (Int32 × ob × hst) := (F_X8_allow oB os op ow oe oH 0 x1 x2).bind fun y1 => (F_X2_drop op x1 x2).bind fun y2 => some (y2.1, y2.2, y1)
set_option maxRecDepth 100000 in
set_option maxHeartbeats 4000000 in
theorem w_X8_dropCoins {b : Nat} {oB : ob} {os : ob} {op : ob} {ow : ob} {oe : ob} {oH : hst} {x1 : Int32} {x2 : Int32} {y : Int32 × ob × hst} (hF : F_X8_dropCoins oB os op ow oe oH x1 x2 = some y) (b_B : bB k b oB h) (b_s : bS k (b + 12) os h) (b_p : bP k (b + 21) (b + 12) op h) (b_w : bQ k (b + 21 + 10) ow h) (b_e : bQ k (b + 21 + 13) oe h) (b_H : bHH k (b + 69) (b + 12) oH h) : Met l yX8_dropCoins (rx_ws yX8_dropCoins cX8_dropCoins 3 (some .int)) (rx_rm 6 149) (va_Pc [.ref b, .int x1, .int x2] (rx_G G k h n)) (va_Qi (fun r u => y.1 = r ∧ u.2 = n ∧ bP k (b + 21) (b + 12) y.2.1 u.1 ∧ bHH k (b + 69) (b + 12) y.2.2 u.1 ∧ rx_fr [(b + 21, 10), (b + 69, 130)] h u.1) (rx_B G k) (rx_A k)) 0 0 (rx_A k) := by
  have s_B_H : b + 1 ≤ b + 69 ∨ b + 69 + 130 ≤ b := by omega
  have s_s_H : b + 12 + 9 ≤ b + 69 ∨ b + 69 + 130 ≤ b + 12 := by omega
  have s_p_H : b + 21 + 10 ≤ b + 69 ∨ b + 69 + 130 ≤ b + 21 := by omega
  have s_w_H : b + 21 + 10 + 3 ≤ b + 69 ∨ b + 69 + 130 ≤ b + 21 + 10 := by omega
  have s_e_H : b + 21 + 13 + 3 ≤ b + 69 ∨ b + 69 + 130 ≤ b + 21 + 13 := by omega
  have s_B_p : b + 1 ≤ b + 21 ∨ b + 21 + 10 ≤ b := by omega
  have s_s_p : b + 12 + 9 ≤ b + 21 ∨ b + 21 + 10 ≤ b + 12 := by omega
  have s_w_p : b + 21 + 10 + 3 ≤ b + 21 ∨ b + 21 + 10 ≤ b + 21 + 10 := by omega
  have s_e_p : b + 21 + 13 + 3 ≤ b + 21 ∨ b + 21 + 10 ≤ b + 21 + 13 := by omega
  have s_H_p : b + 69 + 130 ≤ b + 21 ∨ b + 21 + 10 ≤ b + 69 := by omega
  refine rx_start [(0, .ref b), (1, .int x1), (2, .int x2)] rfl (Nat.le_of_ble_eq_true rfl) (by decide) rfl (fun P9 E9 S9 M9 A9 B9 me9 c9 C hname => ?_)
  unfold F_X8_dropCoins at hF
  have fr : rx_fr [(b + 21, 10), (b + 69, 130)] h h := rx_fr0
  refine rx_aload_n C dX8_dropCoins_0 0 rfl ?_
  refine rx_gets C (C.2.2.2.2.2.2.2.2.2.1 0 (by decide)).1 sf_X8_286 dX8_dropCoins_1 ?_
  refine rx_iload_n C dX8_dropCoins_4 1 rfl ?_
  refine rx_iload_n C dX8_dropCoins_5 2 rfl ?_
  replace hF := rx_biE hF; obtain ⟨y1, e_y1, hF⟩ := hF
  refine rx_cv (rx_rV C (w_X8_allow e_y1 b_B b_s b_p b_w b_e b_H (by decide)) Y_X8_allow V_X8_allow m_X8_292 (Or.inl ⟨_, _, _, _, b_B, rfl⟩) ⟨⟨rfl, rfl⟩, ⟨(Nat.le_of_ble_eq_true rfl), (Nat.le_of_ble_eq_true rfl)⟩, ⟨(Nat.le_of_ble_eq_true rfl), (Nat.le_of_ble_eq_true rfl)⟩⟩ rfl rfl (Nat.le_of_ble_eq_true rfl) dX8_dropCoins_6) (fun hh n1 hpp => ?_)
  obtain ⟨hn, c_H, ff⟩ := hpp
  replace hn : n = n1 := Eq.symm hn
  subst hn
  replace b_H : bHH k (b + 69) (b + 12) y1 hh := c_H
  clear c_H
  replace ff : rx_fr [(b + 69, 130)] _ hh := ff
  replace b_B := b_B.keep ff ⟨s_B_H, trivial⟩
  replace b_s := b_s.keep ff ⟨s_s_H, trivial⟩
  replace b_p := b_p.keep ff ⟨s_p_H, trivial⟩
  replace b_w := b_w.keep ff ⟨s_w_H, trivial⟩
  replace b_e := b_e.keep ff ⟨s_e_H, trivial⟩
  replace fr := rx_frt fr ff (fun a ha => ⟨ha.2.1, trivial⟩)
  refine rx_aload_n C dX8_dropCoins_9 0 rfl ?_
  refine rx_getf C f_X8_31 dX8_dropCoins_10 b_B rfl ?_
  refine rx_iload_n C dX8_dropCoins_13 1 rfl ?_
  refine rx_iload_n C dX8_dropCoins_14 2 rfl ?_
  replace hF := rx_biE hF; obtain ⟨y2, e_y2, hF⟩ := hF
  refine rx_ci (rx_rVN C (w_X2_drop e_y2 b_p) Y_X2_drop V_X2_drop m_X8_296 (Or.inl ⟨_, _, _, _, b_p.1, rfl⟩) ⟨⟨rfl, rfl⟩, ⟨(Nat.le_of_ble_eq_true rfl), (Nat.le_of_ble_eq_true rfl)⟩, ⟨(Nat.le_of_ble_eq_true rfl), (Nat.le_of_ble_eq_true rfl)⟩⟩ rfl rfl (Nat.le_of_ble_eq_true rfl) dX8_dropCoins_15) (fun r hh n1 hpp => ?_)
  obtain ⟨rfl, hn, c_p, ff⟩ := hpp
  replace hn : n = n1 := Eq.symm hn
  subst hn
  replace b_p : bP k (b + 21) (b + 12) y2.2 hh := c_p
  clear c_p
  replace ff : rx_fr [(b + 21, 10)] _ hh := ff
  replace b_B := b_B.keep ff ⟨s_B_p, trivial⟩
  replace b_s := b_s.keep ff ⟨s_s_p, trivial⟩
  replace b_w := b_w.keep ff ⟨s_w_p, trivial⟩
  replace b_e := b_e.keep ff ⟨s_e_p, trivial⟩
  replace b_H := b_H.keep ff ⟨s_H_p, trivial⟩
  replace fr := rx_frt fr ff (fun a ha => ⟨ha.1, trivial⟩)
  obtain rfl := Option.some.inj hF
  exact rx_iret C dX8_dropCoins_18 (Nat.le_refl _) (Nat.le_refl _) ⟨rfl, rfl, b_p, b_H, fr⟩
def F_X8_pickCoins (oB : ob) (os : ob) (op : ob) (ow : ob) (oe : ob) (oH : hst) (x1 : Int32) (x2 : Int32) : Option (Int32 × ob × hst) := (F_X8_allow oB os op ow oe oH 1 x1 x2).bind fun y1 => (F_X2_pick op x1 x2).bind fun y2 => some (y2.1, y2.2, y1)
set_option maxRecDepth 100000 in
set_option maxHeartbeats 4000000 in
theorem w_X8_pickCoins {b : Nat} {oB : ob} {os : ob} {op : ob} {ow : ob} {oe : ob} {oH : hst} {x1 : Int32} {x2 : Int32} {y : Int32 × ob × hst} (hF : F_X8_pickCoins oB os op ow oe oH x1 x2 = some y) (b_B : bB k b oB h) (b_s : bS k (b + 12) os h) (b_p : bP k (b + 21) (b + 12) op h) (b_w : bQ k (b + 21 + 10) ow h) (b_e : bQ k (b + 21 + 13) oe h) (b_H : bHH k (b + 69) (b + 12) oH h) : Met l yX8_pickCoins (rx_ws yX8_pickCoins cX8_pickCoins 3 (some .int)) (rx_rm 6 149) (va_Pc [.ref b, .int x1, .int x2] (rx_G G k h n)) (va_Qi (fun r u => y.1 = r ∧ u.2 = n ∧ bP k (b + 21) (b + 12) y.2.1 u.1 ∧ bHH k (b + 69) (b + 12) y.2.2 u.1 ∧ rx_fr [(b + 21, 10), (b + 69, 130)] h u.1) (rx_B G k) (rx_A k)) 0 0 (rx_A k) := by
  have s_B_H : b + 1 ≤ b + 69 ∨ b + 69 + 130 ≤ b := by omega
  have s_s_H : b + 12 + 9 ≤ b + 69 ∨ b + 69 + 130 ≤ b + 12 := by omega
  have s_p_H : b + 21 + 10 ≤ b + 69 ∨ b + 69 + 130 ≤ b + 21 := by omega
  have s_w_H : b + 21 + 10 + 3 ≤ b + 69 ∨ b + 69 + 130 ≤ b + 21 + 10 := by omega
  have s_e_H : b + 21 + 13 + 3 ≤ b + 69 ∨ b + 69 + 130 ≤ b + 21 + 13 := by omega
  have s_B_p : b + 1 ≤ b + 21 ∨ b + 21 + 10 ≤ b := by omega
  have s_s_p : b + 12 + 9 ≤ b + 21 ∨ b + 21 + 10 ≤ b + 12 := by omega
  have s_w_p : b + 21 + 10 + 3 ≤ b + 21 ∨ b + 21 + 10 ≤ b + 21 + 10 := by omega
  have s_e_p : b + 21 + 13 + 3 ≤ b + 21 ∨ b + 21 + 10 ≤ b + 21 + 13 := by omega
  have s_H_p : b + 69 + 130 ≤ b + 21 ∨ b + 21 + 10 ≤ b + 69 := by omega
  refine rx_start [(0, .ref b), (1, .int x1), (2, .int x2)] rfl (Nat.le_of_ble_eq_true rfl) (by decide) rfl (fun P9 E9 S9 M9 A9 B9 me9 c9 C hname => ?_)
  unfold F_X8_pickCoins at hF
  have fr : rx_fr [(b + 21, 10), (b + 69, 130)] h h := rx_fr0
  refine rx_aload_n C dX8_pickCoins_0 0 rfl ?_
  refine rx_gets C (C.2.2.2.2.2.2.2.2.2.1 1 (by decide)).1 sf_X8_299 dX8_pickCoins_1 ?_
  refine rx_iload_n C dX8_pickCoins_4 1 rfl ?_
  refine rx_iload_n C dX8_pickCoins_5 2 rfl ?_
  replace hF := rx_biE hF; obtain ⟨y1, e_y1, hF⟩ := hF
  refine rx_cv (rx_rV C (w_X8_allow e_y1 b_B b_s b_p b_w b_e b_H (by decide)) Y_X8_allow V_X8_allow m_X8_292 (Or.inl ⟨_, _, _, _, b_B, rfl⟩) ⟨⟨rfl, rfl⟩, ⟨(Nat.le_of_ble_eq_true rfl), (Nat.le_of_ble_eq_true rfl)⟩, ⟨(Nat.le_of_ble_eq_true rfl), (Nat.le_of_ble_eq_true rfl)⟩⟩ rfl rfl (Nat.le_of_ble_eq_true rfl) dX8_pickCoins_6) (fun hh n1 hpp => ?_)
  obtain ⟨hn, c_H, ff⟩ := hpp
  replace hn : n = n1 := Eq.symm hn
  subst hn
  replace b_H : bHH k (b + 69) (b + 12) y1 hh := c_H
  clear c_H
  replace ff : rx_fr [(b + 69, 130)] _ hh := ff
  replace b_B := b_B.keep ff ⟨s_B_H, trivial⟩
  replace b_s := b_s.keep ff ⟨s_s_H, trivial⟩
  replace b_p := b_p.keep ff ⟨s_p_H, trivial⟩
  replace b_w := b_w.keep ff ⟨s_w_H, trivial⟩
  replace b_e := b_e.keep ff ⟨s_e_H, trivial⟩
  replace fr := rx_frt fr ff (fun a ha => ⟨ha.2.1, trivial⟩)
  refine rx_aload_n C dX8_pickCoins_9 0 rfl ?_
  refine rx_getf C f_X8_31 dX8_pickCoins_10 b_B rfl ?_
  refine rx_iload_n C dX8_pickCoins_13 1 rfl ?_
  refine rx_iload_n C dX8_pickCoins_14 2 rfl ?_
  replace hF := rx_biE hF; obtain ⟨y2, e_y2, hF⟩ := hF
  refine rx_ci (rx_rVN C (w_X2_pick e_y2 b_p) Y_X2_pick V_X2_pick m_X8_302 (Or.inl ⟨_, _, _, _, b_p.1, rfl⟩) ⟨⟨rfl, rfl⟩, ⟨(Nat.le_of_ble_eq_true rfl), (Nat.le_of_ble_eq_true rfl)⟩, ⟨(Nat.le_of_ble_eq_true rfl), (Nat.le_of_ble_eq_true rfl)⟩⟩ rfl rfl (Nat.le_of_ble_eq_true rfl) dX8_pickCoins_15) (fun r hh n1 hpp => ?_)
  obtain ⟨rfl, hn, c_p, ff⟩ := hpp
  replace hn : n = n1 := Eq.symm hn
  subst hn
  replace b_p : bP k (b + 21) (b + 12) y2.2 hh := c_p
  clear c_p
  replace ff : rx_fr [(b + 21, 10)] _ hh := ff
  replace b_B := b_B.keep ff ⟨s_B_p, trivial⟩
  replace b_s := b_s.keep ff ⟨s_s_p, trivial⟩
  replace b_w := b_w.keep ff ⟨s_w_p, trivial⟩
  replace b_e := b_e.keep ff ⟨s_e_p, trivial⟩
  replace b_H := b_H.keep ff ⟨s_H_p, trivial⟩
  replace fr := rx_frt fr ff (fun a ha => ⟨ha.1, trivial⟩)
  obtain rfl := Option.some.inj hF
  exact rx_iret C dX8_pickCoins_18 (Nat.le_refl _) (Nat.le_refl _) ⟨rfl, rfl, b_p, b_H, fr⟩
def F_X8_layRoyalCoin (oB : ob) (os : ob) (op : ob) (ow : ob) (oe : ob) (oH : hst) (x1 : Int32) (x2 : Int32) : Option (Int32 × ob × hst) := (F_X8_allow oB os op ow oe oH 2 x1 x2).bind fun y1 => (F_X2_lay op os x1 x2).bind fun y2 => some (y2.1, y2.2, y1)
set_option maxRecDepth 100000 in
set_option maxHeartbeats 4000000 in
theorem w_X8_layRoyalCoin {b : Nat} {oB : ob} {os : ob} {op : ob} {ow : ob} {oe : ob} {oH : hst} {x1 : Int32} {x2 : Int32} {y : Int32 × ob × hst} (hF : F_X8_layRoyalCoin oB os op ow oe oH x1 x2 = some y) (b_B : bB k b oB h) (b_s : bS k (b + 12) os h) (b_p : bP k (b + 21) (b + 12) op h) (b_w : bQ k (b + 21 + 10) ow h) (b_e : bQ k (b + 21 + 13) oe h) (b_H : bHH k (b + 69) (b + 12) oH h) : Met l yX8_layRoyalCoin (rx_ws yX8_layRoyalCoin cX8_layRoyalCoin 3 (some .int)) (rx_rm 6 149) (va_Pc [.ref b, .int x1, .int x2] (rx_G G k h n)) (va_Qi (fun r u => y.1 = r ∧ u.2 = n ∧ bP k (b + 21) (b + 12) y.2.1 u.1 ∧ bHH k (b + 69) (b + 12) y.2.2 u.1 ∧ rx_fr [(b + 21, 10), (b + 69, 130)] h u.1) (rx_B G k) (rx_A k)) 0 0 (rx_A k) := by
  have s_B_H : b + 1 ≤ b + 69 ∨ b + 69 + 130 ≤ b := by omega
  have s_s_H : b + 12 + 9 ≤ b + 69 ∨ b + 69 + 130 ≤ b + 12 := by omega
  have s_p_H : b + 21 + 10 ≤ b + 69 ∨ b + 69 + 130 ≤ b + 21 := by omega
  have s_w_H : b + 21 + 10 + 3 ≤ b + 69 ∨ b + 69 + 130 ≤ b + 21 + 10 := by omega
  have s_e_H : b + 21 + 13 + 3 ≤ b + 69 ∨ b + 69 + 130 ≤ b + 21 + 13 := by omega
  have s_B_p : b + 1 ≤ b + 21 ∨ b + 21 + 10 ≤ b := by omega
  have s_s_p : b + 12 + 9 ≤ b + 21 ∨ b + 21 + 10 ≤ b + 12 := by omega
  have s_w_p : b + 21 + 10 + 3 ≤ b + 21 ∨ b + 21 + 10 ≤ b + 21 + 10 := by omega
  have s_e_p : b + 21 + 13 + 3 ≤ b + 21 ∨ b + 21 + 10 ≤ b + 21 + 13 := by omega
  have s_H_p : b + 69 + 130 ≤ b + 21 ∨ b + 21 + 10 ≤ b + 69 := by omega
  refine rx_start [(0, .ref b), (1, .int x1), (2, .int x2)] rfl (Nat.le_of_ble_eq_true rfl) (by decide) rfl (fun P9 E9 S9 M9 A9 B9 me9 c9 C hname => ?_)
  unfold F_X8_layRoyalCoin at hF
  have fr : rx_fr [(b + 21, 10), (b + 69, 130)] h h := rx_fr0
  refine rx_aload_n C dX8_layRoyalCoin_0 0 rfl ?_
  refine rx_gets C (C.2.2.2.2.2.2.2.2.2.1 2 (by decide)).1 sf_X8_305 dX8_layRoyalCoin_1 ?_
  refine rx_iload_n C dX8_layRoyalCoin_4 1 rfl ?_
  refine rx_iload_n C dX8_layRoyalCoin_5 2 rfl ?_
  replace hF := rx_biE hF; obtain ⟨y1, e_y1, hF⟩ := hF
  refine rx_cv (rx_rV C (w_X8_allow e_y1 b_B b_s b_p b_w b_e b_H (by decide)) Y_X8_allow V_X8_allow m_X8_292 (Or.inl ⟨_, _, _, _, b_B, rfl⟩) ⟨⟨rfl, rfl⟩, ⟨(Nat.le_of_ble_eq_true rfl), (Nat.le_of_ble_eq_true rfl)⟩, ⟨(Nat.le_of_ble_eq_true rfl), (Nat.le_of_ble_eq_true rfl)⟩⟩ rfl rfl (Nat.le_of_ble_eq_true rfl) dX8_layRoyalCoin_6) (fun hh n1 hpp => ?_)
  obtain ⟨hn, c_H, ff⟩ := hpp
  replace hn : n = n1 := Eq.symm hn
  subst hn
  replace b_H : bHH k (b + 69) (b + 12) y1 hh := c_H
  clear c_H
  replace ff : rx_fr [(b + 69, 130)] _ hh := ff
  replace b_B := b_B.keep ff ⟨s_B_H, trivial⟩
  replace b_s := b_s.keep ff ⟨s_s_H, trivial⟩
  replace b_p := b_p.keep ff ⟨s_p_H, trivial⟩
  replace b_w := b_w.keep ff ⟨s_w_H, trivial⟩
  replace b_e := b_e.keep ff ⟨s_e_H, trivial⟩
  replace fr := rx_frt fr ff (fun a ha => ⟨ha.2.1, trivial⟩)
  refine rx_aload_n C dX8_layRoyalCoin_9 0 rfl ?_
  refine rx_getf C f_X8_31 dX8_layRoyalCoin_10 b_B rfl ?_
  refine rx_iload_n C dX8_layRoyalCoin_13 1 rfl ?_
  refine rx_iload_n C dX8_layRoyalCoin_14 2 rfl ?_
  replace hF := rx_biE hF; obtain ⟨y2, e_y2, hF⟩ := hF
  refine rx_ci (rx_rVN C (w_X2_lay e_y2 b_p b_s (by omega)) Y_X2_lay V_X2_lay m_X8_308 (Or.inl ⟨_, _, _, _, b_p.1, rfl⟩) ⟨⟨rfl, rfl⟩, ⟨(Nat.le_of_ble_eq_true rfl), (Nat.le_of_ble_eq_true rfl)⟩, ⟨(Nat.le_of_ble_eq_true rfl), (Nat.le_of_ble_eq_true rfl)⟩⟩ rfl rfl (Nat.le_of_ble_eq_true rfl) dX8_layRoyalCoin_15) (fun r hh n1 hpp => ?_)
  obtain ⟨rfl, hn, c_p, ff⟩ := hpp
  replace hn : n = n1 := Eq.symm hn
  subst hn
  replace b_p : bP k (b + 21) (b + 12) y2.2 hh := c_p
  clear c_p
  replace ff : rx_fr [(b + 21, 10)] _ hh := ff
  replace b_B := b_B.keep ff ⟨s_B_p, trivial⟩
  replace b_s := b_s.keep ff ⟨s_s_p, trivial⟩
  replace b_w := b_w.keep ff ⟨s_w_p, trivial⟩
  replace b_e := b_e.keep ff ⟨s_e_p, trivial⟩
  replace b_H := b_H.keep ff ⟨s_H_p, trivial⟩
  replace fr := rx_frt fr ff (fun a ha => ⟨ha.1, trivial⟩)
  obtain rfl := Option.some.inj hF
  exact rx_iret C dX8_layRoyalCoin_18 (Nat.le_refl _) (Nat.le_refl _) ⟨rfl, rfl, b_p, b_H, fr⟩
def F_X8_liftRoyalCoin (oB : ob) (os : ob) (op : ob) (ow : ob) (oe : ob) (oH : hst) (x1 : Int32) (x2 : Int32) : Option (Int32 × ob × hst) := (F_X8_allow oB os op ow oe oH 3 x1 x2).bind fun y1 => (F_X2_lift op os x1 x2).bind fun y2 => some (y2.1, y2.2, y1)
set_option maxRecDepth 100000 in
set_option maxHeartbeats 4000000 in
theorem w_X8_liftRoyalCoin {b : Nat} {oB : ob} {os : ob} {op : ob} {ow : ob} {oe : ob} {oH : hst} {x1 : Int32} {x2 : Int32} {y : Int32 × ob × hst} (hF : F_X8_liftRoyalCoin oB os op ow oe oH x1 x2 = some y) (b_B : bB k b oB h) (b_s : bS k (b + 12) os h) (b_p : bP k (b + 21) (b + 12) op h) (b_w : bQ k (b + 21 + 10) ow h) (b_e : bQ k (b + 21 + 13) oe h) (b_H : bHH k (b + 69) (b + 12) oH h) : Met l yX8_liftRoyalCoin (rx_ws yX8_liftRoyalCoin cX8_liftRoyalCoin 3 (some .int)) (rx_rm 6 149) (va_Pc [.ref b, .int x1, .int x2] (rx_G G k h n)) (va_Qi (fun r u => y.1 = r ∧ u.2 = n ∧ bP k (b + 21) (b + 12) y.2.1 u.1 ∧ bHH k (b + 69) (b + 12) y.2.2 u.1 ∧ rx_fr [(b + 21, 10), (b + 69, 130)] h u.1) (rx_B G k) (rx_A k)) 0 0 (rx_A k) := by
  have s_B_H : b + 1 ≤ b + 69 ∨ b + 69 + 130 ≤ b := by omega
  have s_s_H : b + 12 + 9 ≤ b + 69 ∨ b + 69 + 130 ≤ b + 12 := by omega
  have s_p_H : b + 21 + 10 ≤ b + 69 ∨ b + 69 + 130 ≤ b + 21 := by omega
  have s_w_H : b + 21 + 10 + 3 ≤ b + 69 ∨ b + 69 + 130 ≤ b + 21 + 10 := by omega
  have s_e_H : b + 21 + 13 + 3 ≤ b + 69 ∨ b + 69 + 130 ≤ b + 21 + 13 := by omega
  have s_B_p : b + 1 ≤ b + 21 ∨ b + 21 + 10 ≤ b := by omega
  have s_s_p : b + 12 + 9 ≤ b + 21 ∨ b + 21 + 10 ≤ b + 12 := by omega
  have s_w_p : b + 21 + 10 + 3 ≤ b + 21 ∨ b + 21 + 10 ≤ b + 21 + 10 := by omega
  have s_e_p : b + 21 + 13 + 3 ≤ b + 21 ∨ b + 21 + 10 ≤ b + 21 + 13 := by omega
  have s_H_p : b + 69 + 130 ≤ b + 21 ∨ b + 21 + 10 ≤ b + 69 := by omega
  refine rx_start [(0, .ref b), (1, .int x1), (2, .int x2)] rfl (Nat.le_of_ble_eq_true rfl) (by decide) rfl (fun P9 E9 S9 M9 A9 B9 me9 c9 C hname => ?_)
  unfold F_X8_liftRoyalCoin at hF
  have fr : rx_fr [(b + 21, 10), (b + 69, 130)] h h := rx_fr0
  refine rx_aload_n C dX8_liftRoyalCoin_0 0 rfl ?_
  refine rx_gets C (C.2.2.2.2.2.2.2.2.2.1 3 (by decide)).1 sf_X8_311 dX8_liftRoyalCoin_1 ?_
  refine rx_iload_n C dX8_liftRoyalCoin_4 1 rfl ?_
  refine rx_iload_n C dX8_liftRoyalCoin_5 2 rfl ?_
  replace hF := rx_biE hF; obtain ⟨y1, e_y1, hF⟩ := hF
  refine rx_cv (rx_rV C (w_X8_allow e_y1 b_B b_s b_p b_w b_e b_H (by decide)) Y_X8_allow V_X8_allow m_X8_292 (Or.inl ⟨_, _, _, _, b_B, rfl⟩) ⟨⟨rfl, rfl⟩, ⟨(Nat.le_of_ble_eq_true rfl), (Nat.le_of_ble_eq_true rfl)⟩, ⟨(Nat.le_of_ble_eq_true rfl), (Nat.le_of_ble_eq_true rfl)⟩⟩ rfl rfl (Nat.le_of_ble_eq_true rfl) dX8_liftRoyalCoin_6) (fun hh n1 hpp => ?_)
  obtain ⟨hn, c_H, ff⟩ := hpp
  replace hn : n = n1 := Eq.symm hn
  subst hn
  replace b_H : bHH k (b + 69) (b + 12) y1 hh := c_H
  clear c_H
  replace ff : rx_fr [(b + 69, 130)] _ hh := ff
  replace b_B := b_B.keep ff ⟨s_B_H, trivial⟩
  replace b_s := b_s.keep ff ⟨s_s_H, trivial⟩
  replace b_p := b_p.keep ff ⟨s_p_H, trivial⟩
  replace b_w := b_w.keep ff ⟨s_w_H, trivial⟩
  replace b_e := b_e.keep ff ⟨s_e_H, trivial⟩
  replace fr := rx_frt fr ff (fun a ha => ⟨ha.2.1, trivial⟩)
  refine rx_aload_n C dX8_liftRoyalCoin_9 0 rfl ?_
  refine rx_getf C f_X8_31 dX8_liftRoyalCoin_10 b_B rfl ?_
  refine rx_iload_n C dX8_liftRoyalCoin_13 1 rfl ?_
  refine rx_iload_n C dX8_liftRoyalCoin_14 2 rfl ?_
  replace hF := rx_biE hF; obtain ⟨y2, e_y2, hF⟩ := hF
  refine rx_ci (rx_rVN C (w_X2_lift e_y2 b_p b_s (by omega)) Y_X2_lift V_X2_lift m_X8_314 (Or.inl ⟨_, _, _, _, b_p.1, rfl⟩) ⟨⟨rfl, rfl⟩, ⟨(Nat.le_of_ble_eq_true rfl), (Nat.le_of_ble_eq_true rfl)⟩, ⟨(Nat.le_of_ble_eq_true rfl), (Nat.le_of_ble_eq_true rfl)⟩⟩ rfl rfl (Nat.le_of_ble_eq_true rfl) dX8_liftRoyalCoin_15) (fun r hh n1 hpp => ?_)
  obtain ⟨rfl, hn, c_p, ff⟩ := hpp
  replace hn : n = n1 := Eq.symm hn
  subst hn
  replace b_p : bP k (b + 21) (b + 12) y2.2 hh := c_p
  clear c_p
  replace ff : rx_fr [(b + 21, 10)] _ hh := ff
  replace b_B := b_B.keep ff ⟨s_B_p, trivial⟩
  replace b_s := b_s.keep ff ⟨s_s_p, trivial⟩
  replace b_w := b_w.keep ff ⟨s_w_p, trivial⟩
  replace b_e := b_e.keep ff ⟨s_e_p, trivial⟩
  replace b_H := b_H.keep ff ⟨s_H_p, trivial⟩
  replace fr := rx_frt fr ff (fun a ha => ⟨ha.1, trivial⟩)
  obtain rfl := Option.some.inj hF
  exact rx_iret C dX8_liftRoyalCoin_18 (Nat.le_refl _) (Nat.le_refl _) ⟨rfl, rfl, b_p, b_H, fr⟩
def F_X8_swapRags (oB : ob) (os : ob) (op : ob) (ow : ob) (oe : ob) (oH : hst) (x1 : Int32) (x2 : Int32) : Option (Int32 × ob × hst) := (F_X8_allow oB os op ow oe oH 4 x1 x2).bind fun y1 => (F_X2_swap op x1 x2).bind fun y2 => some (y2.1, y2.2, y1)
set_option maxRecDepth 100000 in
set_option maxHeartbeats 4000000 in
theorem w_X8_swapRags {b : Nat} {oB : ob} {os : ob} {op : ob} {ow : ob} {oe : ob} {oH : hst} {x1 : Int32} {x2 : Int32} {y : Int32 × ob × hst} (hF : F_X8_swapRags oB os op ow oe oH x1 x2 = some y) (b_B : bB k b oB h) (b_s : bS k (b + 12) os h) (b_p : bP k (b + 21) (b + 12) op h) (b_w : bQ k (b + 21 + 10) ow h) (b_e : bQ k (b + 21 + 13) oe h) (b_H : bHH k (b + 69) (b + 12) oH h) : Met l yX8_swapRags (rx_ws yX8_swapRags cX8_swapRags 3 (some .int)) (rx_rm 6 149) (va_Pc [.ref b, .int x1, .int x2] (rx_G G k h n)) (va_Qi (fun r u => y.1 = r ∧ u.2 = n ∧ bP k (b + 21) (b + 12) y.2.1 u.1 ∧ bHH k (b + 69) (b + 12) y.2.2 u.1 ∧ rx_fr [(b + 21, 10), (b + 69, 130)] h u.1) (rx_B G k) (rx_A k)) 0 0 (rx_A k) := by
  have s_B_H : b + 1 ≤ b + 69 ∨ b + 69 + 130 ≤ b := by omega
  have s_s_H : b + 12 + 9 ≤ b + 69 ∨ b + 69 + 130 ≤ b + 12 := by omega
  have s_p_H : b + 21 + 10 ≤ b + 69 ∨ b + 69 + 130 ≤ b + 21 := by omega
  have s_w_H : b + 21 + 10 + 3 ≤ b + 69 ∨ b + 69 + 130 ≤ b + 21 + 10 := by omega
  have s_e_H : b + 21 + 13 + 3 ≤ b + 69 ∨ b + 69 + 130 ≤ b + 21 + 13 := by omega
  have s_B_p : b + 1 ≤ b + 21 ∨ b + 21 + 10 ≤ b := by omega
  have s_s_p : b + 12 + 9 ≤ b + 21 ∨ b + 21 + 10 ≤ b + 12 := by omega
  have s_w_p : b + 21 + 10 + 3 ≤ b + 21 ∨ b + 21 + 10 ≤ b + 21 + 10 := by omega
  have s_e_p : b + 21 + 13 + 3 ≤ b + 21 ∨ b + 21 + 10 ≤ b + 21 + 13 := by omega
  have s_H_p : b + 69 + 130 ≤ b + 21 ∨ b + 21 + 10 ≤ b + 69 := by omega
  refine rx_start [(0, .ref b), (1, .int x1), (2, .int x2)] rfl (Nat.le_of_ble_eq_true rfl) (by decide) rfl (fun P9 E9 S9 M9 A9 B9 me9 c9 C hname => ?_)
  unfold F_X8_swapRags at hF
  have fr : rx_fr [(b + 21, 10), (b + 69, 130)] h h := rx_fr0
  refine rx_aload_n C dX8_swapRags_0 0 rfl ?_
  refine rx_gets C (C.2.2.2.2.2.2.2.2.2.1 4 (by decide)).1 sf_X8_317 dX8_swapRags_1 ?_
  refine rx_iload_n C dX8_swapRags_4 1 rfl ?_
  refine rx_iload_n C dX8_swapRags_5 2 rfl ?_
  replace hF := rx_biE hF; obtain ⟨y1, e_y1, hF⟩ := hF
  refine rx_cv (rx_rV C (w_X8_allow e_y1 b_B b_s b_p b_w b_e b_H (by decide)) Y_X8_allow V_X8_allow m_X8_292 (Or.inl ⟨_, _, _, _, b_B, rfl⟩) ⟨⟨rfl, rfl⟩, ⟨(Nat.le_of_ble_eq_true rfl), (Nat.le_of_ble_eq_true rfl)⟩, ⟨(Nat.le_of_ble_eq_true rfl), (Nat.le_of_ble_eq_true rfl)⟩⟩ rfl rfl (Nat.le_of_ble_eq_true rfl) dX8_swapRags_6) (fun hh n1 hpp => ?_)
  obtain ⟨hn, c_H, ff⟩ := hpp
  replace hn : n = n1 := Eq.symm hn
  subst hn
  replace b_H : bHH k (b + 69) (b + 12) y1 hh := c_H
  clear c_H
  replace ff : rx_fr [(b + 69, 130)] _ hh := ff
  replace b_B := b_B.keep ff ⟨s_B_H, trivial⟩
  replace b_s := b_s.keep ff ⟨s_s_H, trivial⟩
  replace b_p := b_p.keep ff ⟨s_p_H, trivial⟩
  replace b_w := b_w.keep ff ⟨s_w_H, trivial⟩
  replace b_e := b_e.keep ff ⟨s_e_H, trivial⟩
  replace fr := rx_frt fr ff (fun a ha => ⟨ha.2.1, trivial⟩)
  refine rx_aload_n C dX8_swapRags_9 0 rfl ?_
  refine rx_getf C f_X8_31 dX8_swapRags_10 b_B rfl ?_
  refine rx_iload_n C dX8_swapRags_13 1 rfl ?_
  refine rx_iload_n C dX8_swapRags_14 2 rfl ?_
  replace hF := rx_biE hF; obtain ⟨y2, e_y2, hF⟩ := hF
  refine rx_ci (rx_rVN C (w_X2_swap e_y2 b_p) Y_X2_swap V_X2_swap m_X8_320 (Or.inl ⟨_, _, _, _, b_p.1, rfl⟩) ⟨⟨rfl, rfl⟩, ⟨(Nat.le_of_ble_eq_true rfl), (Nat.le_of_ble_eq_true rfl)⟩, ⟨(Nat.le_of_ble_eq_true rfl), (Nat.le_of_ble_eq_true rfl)⟩⟩ rfl rfl (Nat.le_of_ble_eq_true rfl) dX8_swapRags_15) (fun r hh n1 hpp => ?_)
  obtain ⟨rfl, hn, c_p, ff⟩ := hpp
  replace hn : n = n1 := Eq.symm hn
  subst hn
  replace b_p : bP k (b + 21) (b + 12) y2.2 hh := c_p
  clear c_p
  replace ff : rx_fr [(b + 21, 10)] _ hh := ff
  replace b_B := b_B.keep ff ⟨s_B_p, trivial⟩
  replace b_s := b_s.keep ff ⟨s_s_p, trivial⟩
  replace b_w := b_w.keep ff ⟨s_w_p, trivial⟩
  replace b_e := b_e.keep ff ⟨s_e_p, trivial⟩
  replace b_H := b_H.keep ff ⟨s_H_p, trivial⟩
  replace fr := rx_frt fr ff (fun a ha => ⟨ha.1, trivial⟩)
  obtain rfl := Option.some.inj hF
  exact rx_iret C dX8_swapRags_18 (Nat.le_refl _) (Nat.le_refl _) ⟨rfl, rfl, b_p, b_H, fr⟩
def F_X8_joinQueue (oB : ob) (os : ob) (op : ob) (ow : ob) (oe : ob) (oH : hst) (x1 : Int32) (x2 : Int32) : Option (Int32 × ob × ob × hst) := (F_X8_allow oB os op ow oe oH 5 x1 x2).bind fun y1 => (F_X2_join op ow oe x1 x2).bind fun y2 => some (y2.1, y2.2.1, y2.2.2, y1)
set_option maxRecDepth 100000 in
set_option maxHeartbeats 4000000 in
theorem w_X8_joinQueue {b : Nat} {oB : ob} {os : ob} {op : ob} {ow : ob} {oe : ob} {oH : hst} {x1 : Int32} {x2 : Int32} {y : Int32 × ob × ob × hst} (hF : F_X8_joinQueue oB os op ow oe oH x1 x2 = some y) (b_B : bB k b oB h) (b_s : bS k (b + 12) os h) (b_p : bP k (b + 21) (b + 12) op h) (b_w : bQ k (b + 21 + 10) ow h) (b_e : bQ k (b + 21 + 13) oe h) (b_H : bHH k (b + 69) (b + 12) oH h) : Met l yX8_joinQueue (rx_ws yX8_joinQueue cX8_joinQueue 3 (some .int)) (rx_rm 6 149) (va_Pc [.ref b, .int x1, .int x2] (rx_G G k h n)) (va_Qi (fun r u => y.1 = r ∧ u.2 = n ∧ bQ k (b + 21 + 10) y.2.1 u.1 ∧ bQ k (b + 21 + 13) y.2.2.1 u.1 ∧ bHH k (b + 69) (b + 12) y.2.2.2 u.1 ∧ rx_fr [(b + 21 + 10, 3), (b + 21 + 13, 3), (b + 69, 130)] h u.1) (rx_B G k) (rx_A k)) 0 0 (rx_A k) := by
  have s_B_H : b + 1 ≤ b + 69 ∨ b + 69 + 130 ≤ b := by omega
  have s_s_H : b + 12 + 9 ≤ b + 69 ∨ b + 69 + 130 ≤ b + 12 := by omega
  have s_p_H : b + 21 + 10 ≤ b + 69 ∨ b + 69 + 130 ≤ b + 21 := by omega
  have s_w_H : b + 21 + 10 + 3 ≤ b + 69 ∨ b + 69 + 130 ≤ b + 21 + 10 := by omega
  have s_e_H : b + 21 + 13 + 3 ≤ b + 69 ∨ b + 69 + 130 ≤ b + 21 + 13 := by omega
  have s_B_w : b + 1 ≤ b + 21 + 10 ∨ b + 21 + 10 + 3 ≤ b := by omega
  have s_B_e : b + 1 ≤ b + 21 + 13 ∨ b + 21 + 13 + 3 ≤ b := by omega
  have s_s_w : b + 12 + 9 ≤ b + 21 + 10 ∨ b + 21 + 10 + 3 ≤ b + 12 := by omega
  have s_s_e : b + 12 + 9 ≤ b + 21 + 13 ∨ b + 21 + 13 + 3 ≤ b + 12 := by omega
  have s_p_w : b + 21 + 10 ≤ b + 21 + 10 ∨ b + 21 + 10 + 3 ≤ b + 21 := by omega
  have s_p_e : b + 21 + 10 ≤ b + 21 + 13 ∨ b + 21 + 13 + 3 ≤ b + 21 := by omega
  have s_H_w : b + 69 + 130 ≤ b + 21 + 10 ∨ b + 21 + 10 + 3 ≤ b + 69 := by omega
  have s_H_e : b + 69 + 130 ≤ b + 21 + 13 ∨ b + 21 + 13 + 3 ≤ b + 69 := by omega
  refine rx_start [(0, .ref b), (1, .int x1), (2, .int x2)] rfl (Nat.le_of_ble_eq_true rfl) (by decide) rfl (fun P9 E9 S9 M9 A9 B9 me9 c9 C hname => ?_)
  unfold F_X8_joinQueue at hF
  have fr : rx_fr [(b + 21 + 10, 3), (b + 21 + 13, 3), (b + 69, 130)] h h := rx_fr0
  refine rx_aload_n C dX8_joinQueue_0 0 rfl ?_
  refine rx_gets C (C.2.2.2.2.2.2.2.2.2.1 5 (by decide)).1 sf_X8_323 dX8_joinQueue_1 ?_
  refine rx_iload_n C dX8_joinQueue_4 1 rfl ?_
  refine rx_iload_n C dX8_joinQueue_5 2 rfl ?_
  replace hF := rx_biE hF; obtain ⟨y1, e_y1, hF⟩ := hF
  refine rx_cv (rx_rV C (w_X8_allow e_y1 b_B b_s b_p b_w b_e b_H (by decide)) Y_X8_allow V_X8_allow m_X8_292 (Or.inl ⟨_, _, _, _, b_B, rfl⟩) ⟨⟨rfl, rfl⟩, ⟨(Nat.le_of_ble_eq_true rfl), (Nat.le_of_ble_eq_true rfl)⟩, ⟨(Nat.le_of_ble_eq_true rfl), (Nat.le_of_ble_eq_true rfl)⟩⟩ rfl rfl (Nat.le_of_ble_eq_true rfl) dX8_joinQueue_6) (fun hh n1 hpp => ?_)
  obtain ⟨hn, c_H, ff⟩ := hpp
  replace hn : n = n1 := Eq.symm hn
  subst hn
  replace b_H : bHH k (b + 69) (b + 12) y1 hh := c_H
  clear c_H
  replace ff : rx_fr [(b + 69, 130)] _ hh := ff
  replace b_B := b_B.keep ff ⟨s_B_H, trivial⟩
  replace b_s := b_s.keep ff ⟨s_s_H, trivial⟩
  replace b_p := b_p.keep ff ⟨s_p_H, trivial⟩
  replace b_w := b_w.keep ff ⟨s_w_H, trivial⟩
  replace b_e := b_e.keep ff ⟨s_e_H, trivial⟩
  replace fr := rx_frt fr ff (fun a ha => ⟨ha.2.2.1, trivial⟩)
  refine rx_aload_n C dX8_joinQueue_9 0 rfl ?_
  refine rx_getf C f_X8_31 dX8_joinQueue_10 b_B rfl ?_
  refine rx_iload_n C dX8_joinQueue_13 1 rfl ?_
  refine rx_iload_n C dX8_joinQueue_14 2 rfl ?_
  replace hF := rx_biE hF; obtain ⟨y2, e_y2, hF⟩ := hF
  refine rx_ci (rx_rVN C (w_X2_join e_y2 b_p b_w b_e) Y_X2_join V_X2_join m_X8_326 (Or.inl ⟨_, _, _, _, b_p.1, rfl⟩) ⟨⟨rfl, rfl⟩, ⟨(Nat.le_of_ble_eq_true rfl), (Nat.le_of_ble_eq_true rfl)⟩, ⟨(Nat.le_of_ble_eq_true rfl), (Nat.le_of_ble_eq_true rfl)⟩⟩ rfl rfl (Nat.le_of_ble_eq_true rfl) dX8_joinQueue_15) (fun r hh n1 hpp => ?_)
  obtain ⟨rfl, hn, c_w, c_e, ff⟩ := hpp
  replace hn : n = n1 := Eq.symm hn
  subst hn
  replace b_w : bQ k (b + 21 + 10) y2.2.1 hh := c_w
  clear c_w
  replace b_e : bQ k (b + 21 + 13) y2.2.2 hh := c_e
  clear c_e
  replace ff : rx_fr [(b + 21 + 10, 3), (b + 21 + 13, 3)] _ hh := ff
  replace b_B := b_B.keep ff ⟨s_B_w, s_B_e, trivial⟩
  replace b_s := b_s.keep ff ⟨s_s_w, s_s_e, trivial⟩
  replace b_p := b_p.keep ff ⟨s_p_w, s_p_e, trivial⟩
  replace b_H := b_H.keep ff ⟨s_H_w, s_H_e, trivial⟩
  replace fr := rx_frt fr ff (fun a ha => ⟨ha.1, ha.2.1, trivial⟩)
  obtain rfl := Option.some.inj hF
  exact rx_iret C dX8_joinQueue_18 (Nat.le_refl _) (Nat.le_refl _) ⟨rfl, rfl, b_w, b_e, b_H, fr⟩
def F_X8_quitQueue (oB : ob) (os : ob) (op : ob) (ow : ob) (oe : ob) (oH : hst) (x1 : Int32) : Option (Int32 × ob × ob × hst) := (F_X8_allow oB os op ow oe oH 6 x1 ((0 : Int32))).bind fun y1 => (F_X2_quit op ow oe x1).bind fun y2 => some (y2.1, y2.2.1, y2.2.2, y1)
set_option maxRecDepth 100000 in
set_option maxHeartbeats 4000000 in
theorem w_X8_quitQueue {b : Nat} {oB : ob} {os : ob} {op : ob} {ow : ob} {oe : ob} {oH : hst} {x1 : Int32} {y : Int32 × ob × ob × hst} (hF : F_X8_quitQueue oB os op ow oe oH x1 = some y) (b_B : bB k b oB h) (b_s : bS k (b + 12) os h) (b_p : bP k (b + 21) (b + 12) op h) (b_w : bQ k (b + 21 + 10) ow h) (b_e : bQ k (b + 21 + 13) oe h) (b_H : bHH k (b + 69) (b + 12) oH h) : Met l yX8_quitQueue (rx_ws yX8_quitQueue cX8_quitQueue 2 (some .int)) (rx_rm 6 149) (va_Pc [.ref b, .int x1] (rx_G G k h n)) (va_Qi (fun r u => y.1 = r ∧ u.2 = n ∧ bQ k (b + 21 + 10) y.2.1 u.1 ∧ bQ k (b + 21 + 13) y.2.2.1 u.1 ∧ bHH k (b + 69) (b + 12) y.2.2.2 u.1 ∧ rx_fr [(b + 21 + 10, 3), (b + 21 + 13, 3), (b + 69, 130)] h u.1) (rx_B G k) (rx_A k)) 0 0 (rx_A k) := by
  have s_B_H : b + 1 ≤ b + 69 ∨ b + 69 + 130 ≤ b := by omega
  have s_s_H : b + 12 + 9 ≤ b + 69 ∨ b + 69 + 130 ≤ b + 12 := by omega
  have s_p_H : b + 21 + 10 ≤ b + 69 ∨ b + 69 + 130 ≤ b + 21 := by omega
  have s_w_H : b + 21 + 10 + 3 ≤ b + 69 ∨ b + 69 + 130 ≤ b + 21 + 10 := by omega
  have s_e_H : b + 21 + 13 + 3 ≤ b + 69 ∨ b + 69 + 130 ≤ b + 21 + 13 := by omega
  have s_B_w : b + 1 ≤ b + 21 + 10 ∨ b + 21 + 10 + 3 ≤ b := by omega
  have s_B_e : b + 1 ≤ b + 21 + 13 ∨ b + 21 + 13 + 3 ≤ b := by omega
  have s_s_w : b + 12 + 9 ≤ b + 21 + 10 ∨ b + 21 + 10 + 3 ≤ b + 12 := by omega
  have s_s_e : b + 12 + 9 ≤ b + 21 + 13 ∨ b + 21 + 13 + 3 ≤ b + 12 := by omega
  have s_p_w : b + 21 + 10 ≤ b + 21 + 10 ∨ b + 21 + 10 + 3 ≤ b + 21 := by omega
  have s_p_e : b + 21 + 10 ≤ b + 21 + 13 ∨ b + 21 + 13 + 3 ≤ b + 21 := by omega
  have s_H_w : b + 69 + 130 ≤ b + 21 + 10 ∨ b + 21 + 10 + 3 ≤ b + 69 := by omega
  have s_H_e : b + 69 + 130 ≤ b + 21 + 13 ∨ b + 21 + 13 + 3 ≤ b + 69 := by omega
  refine rx_start [(0, .ref b), (1, .int x1)] rfl (Nat.le_of_ble_eq_true rfl) (by decide) rfl (fun P9 E9 S9 M9 A9 B9 me9 c9 C hname => ?_)
  unfold F_X8_quitQueue at hF
  have fr : rx_fr [(b + 21 + 10, 3), (b + 21 + 13, 3), (b + 69, 130)] h h := rx_fr0
  refine rx_aload_n C dX8_quitQueue_0 0 rfl ?_
  refine rx_gets C (C.2.2.2.2.2.2.2.2.2.1 6 (by decide)).1 sf_X8_329 dX8_quitQueue_1 ?_
  refine rx_iload_n C dX8_quitQueue_4 1 rfl ?_
  refine rx_iconst C dX8_quitQueue_5 (0 : Int32) (by decide) ?_
  replace hF := rx_biE hF; obtain ⟨y1, e_y1, hF⟩ := hF
  refine rx_cv (rx_rV C (w_X8_allow e_y1 b_B b_s b_p b_w b_e b_H (by decide)) Y_X8_allow V_X8_allow m_X8_292 (Or.inl ⟨_, _, _, _, b_B, rfl⟩) ⟨⟨rfl, rfl⟩, ⟨(Nat.le_of_ble_eq_true rfl), (Nat.le_of_ble_eq_true rfl)⟩, ⟨(Nat.le_of_ble_eq_true rfl), (Nat.le_of_ble_eq_true rfl)⟩⟩ rfl rfl (Nat.le_of_ble_eq_true rfl) dX8_quitQueue_6) (fun hh n1 hpp => ?_)
  obtain ⟨hn, c_H, ff⟩ := hpp
  replace hn : n = n1 := Eq.symm hn
  subst hn
  replace b_H : bHH k (b + 69) (b + 12) y1 hh := c_H
  clear c_H
  replace ff : rx_fr [(b + 69, 130)] _ hh := ff
  replace b_B := b_B.keep ff ⟨s_B_H, trivial⟩
  replace b_s := b_s.keep ff ⟨s_s_H, trivial⟩
  replace b_p := b_p.keep ff ⟨s_p_H, trivial⟩
  replace b_w := b_w.keep ff ⟨s_w_H, trivial⟩
  replace b_e := b_e.keep ff ⟨s_e_H, trivial⟩
  replace fr := rx_frt fr ff (fun a ha => ⟨ha.2.2.1, trivial⟩)
  refine rx_aload_n C dX8_quitQueue_9 0 rfl ?_
  refine rx_getf C f_X8_31 dX8_quitQueue_10 b_B rfl ?_
  refine rx_iload_n C dX8_quitQueue_13 1 rfl ?_
  replace hF := rx_biE hF; obtain ⟨y2, e_y2, hF⟩ := hF
  refine rx_ci (rx_rVN C (w_X2_quit e_y2 b_p b_w b_e) Y_X2_quit V_X2_quit m_X8_332 (Or.inl ⟨_, _, _, _, b_p.1, rfl⟩) ⟨⟨rfl, rfl⟩, ⟨(Nat.le_of_ble_eq_true rfl), (Nat.le_of_ble_eq_true rfl)⟩, ⟨(Nat.le_of_ble_eq_true rfl), (Nat.le_of_ble_eq_true rfl)⟩⟩ rfl rfl (Nat.le_of_ble_eq_true rfl) dX8_quitQueue_14) (fun r hh n1 hpp => ?_)
  obtain ⟨rfl, hn, c_w, c_e, ff⟩ := hpp
  replace hn : n = n1 := Eq.symm hn
  subst hn
  replace b_w : bQ k (b + 21 + 10) y2.2.1 hh := c_w
  clear c_w
  replace b_e : bQ k (b + 21 + 13) y2.2.2 hh := c_e
  clear c_e
  replace ff : rx_fr [(b + 21 + 10, 3), (b + 21 + 13, 3)] _ hh := ff
  replace b_B := b_B.keep ff ⟨s_B_w, s_B_e, trivial⟩
  replace b_s := b_s.keep ff ⟨s_s_w, s_s_e, trivial⟩
  replace b_p := b_p.keep ff ⟨s_p_w, s_p_e, trivial⟩
  replace b_H := b_H.keep ff ⟨s_H_w, s_H_e, trivial⟩
  replace fr := rx_frt fr ff (fun a ha => ⟨ha.1, ha.2.1, trivial⟩)
  obtain rfl := Option.some.inj hF
  exact rx_iret C dX8_quitQueue_17 (Nat.le_refl _) (Nat.le_refl _) ⟨rfl, rfl, b_w, b_e, b_H, fr⟩
def F_X8_setPride (oB : ob) (os : ob) (op : ob) (ow : ob) (oe : ob) (oH : hst) (x1 : Int32) (x2 : Int32) : Option (Int32 × ob × hst) := (F_X8_allow oB os op ow oe oH 7 x1 x2).bind fun y1 => (F_X2_changePride op x1 x2).bind fun y2 => some (y2.1, y2.2, y1)
set_option maxRecDepth 100000 in
set_option maxHeartbeats 4000000 in
theorem w_X8_setPride {b : Nat} {oB : ob} {os : ob} {op : ob} {ow : ob} {oe : ob} {oH : hst} {x1 : Int32} {x2 : Int32} {y : Int32 × ob × hst} (hF : F_X8_setPride oB os op ow oe oH x1 x2 = some y) (b_B : bB k b oB h) (b_s : bS k (b + 12) os h) (b_p : bP k (b + 21) (b + 12) op h) (b_w : bQ k (b + 21 + 10) ow h) (b_e : bQ k (b + 21 + 13) oe h) (b_H : bHH k (b + 69) (b + 12) oH h) : Met l yX8_setPride (rx_ws yX8_setPride cX8_setPride 3 (some .int)) (rx_rm 6 149) (va_Pc [.ref b, .int x1, .int x2] (rx_G G k h n)) (va_Qi (fun r u => y.1 = r ∧ u.2 = n ∧ bP k (b + 21) (b + 12) y.2.1 u.1 ∧ bHH k (b + 69) (b + 12) y.2.2 u.1 ∧ rx_fr [(b + 21, 10), (b + 69, 130)] h u.1) (rx_B G k) (rx_A k)) 0 0 (rx_A k) := by
  have s_B_H : b + 1 ≤ b + 69 ∨ b + 69 + 130 ≤ b := by omega
  have s_s_H : b + 12 + 9 ≤ b + 69 ∨ b + 69 + 130 ≤ b + 12 := by omega
  have s_p_H : b + 21 + 10 ≤ b + 69 ∨ b + 69 + 130 ≤ b + 21 := by omega
  have s_w_H : b + 21 + 10 + 3 ≤ b + 69 ∨ b + 69 + 130 ≤ b + 21 + 10 := by omega
  have s_e_H : b + 21 + 13 + 3 ≤ b + 69 ∨ b + 69 + 130 ≤ b + 21 + 13 := by omega
  have s_B_p : b + 1 ≤ b + 21 ∨ b + 21 + 10 ≤ b := by omega
  have s_s_p : b + 12 + 9 ≤ b + 21 ∨ b + 21 + 10 ≤ b + 12 := by omega
  have s_w_p : b + 21 + 10 + 3 ≤ b + 21 ∨ b + 21 + 10 ≤ b + 21 + 10 := by omega
  have s_e_p : b + 21 + 13 + 3 ≤ b + 21 ∨ b + 21 + 10 ≤ b + 21 + 13 := by omega
  have s_H_p : b + 69 + 130 ≤ b + 21 ∨ b + 21 + 10 ≤ b + 69 := by omega
  refine rx_start [(0, .ref b), (1, .int x1), (2, .int x2)] rfl (Nat.le_of_ble_eq_true rfl) (by decide) rfl (fun P9 E9 S9 M9 A9 B9 me9 c9 C hname => ?_)
  unfold F_X8_setPride at hF
  have fr : rx_fr [(b + 21, 10), (b + 69, 130)] h h := rx_fr0
  refine rx_aload_n C dX8_setPride_0 0 rfl ?_
  refine rx_gets C (C.2.2.2.2.2.2.2.2.2.1 7 (by decide)).1 sf_X8_335 dX8_setPride_1 ?_
  refine rx_iload_n C dX8_setPride_4 1 rfl ?_
  refine rx_iload_n C dX8_setPride_5 2 rfl ?_
  replace hF := rx_biE hF; obtain ⟨y1, e_y1, hF⟩ := hF
  refine rx_cv (rx_rV C (w_X8_allow e_y1 b_B b_s b_p b_w b_e b_H (by decide)) Y_X8_allow V_X8_allow m_X8_292 (Or.inl ⟨_, _, _, _, b_B, rfl⟩) ⟨⟨rfl, rfl⟩, ⟨(Nat.le_of_ble_eq_true rfl), (Nat.le_of_ble_eq_true rfl)⟩, ⟨(Nat.le_of_ble_eq_true rfl), (Nat.le_of_ble_eq_true rfl)⟩⟩ rfl rfl (Nat.le_of_ble_eq_true rfl) dX8_setPride_6) (fun hh n1 hpp => ?_)
  obtain ⟨hn, c_H, ff⟩ := hpp
  replace hn : n = n1 := Eq.symm hn
  subst hn
  replace b_H : bHH k (b + 69) (b + 12) y1 hh := c_H
  clear c_H
  replace ff : rx_fr [(b + 69, 130)] _ hh := ff
  replace b_B := b_B.keep ff ⟨s_B_H, trivial⟩
  replace b_s := b_s.keep ff ⟨s_s_H, trivial⟩
  replace b_p := b_p.keep ff ⟨s_p_H, trivial⟩
  replace b_w := b_w.keep ff ⟨s_w_H, trivial⟩
  replace b_e := b_e.keep ff ⟨s_e_H, trivial⟩
  replace fr := rx_frt fr ff (fun a ha => ⟨ha.2.1, trivial⟩)
  refine rx_aload_n C dX8_setPride_9 0 rfl ?_
  refine rx_getf C f_X8_31 dX8_setPride_10 b_B rfl ?_
  refine rx_iload_n C dX8_setPride_13 1 rfl ?_
  refine rx_iload_n C dX8_setPride_14 2 rfl ?_
  replace hF := rx_biE hF; obtain ⟨y2, e_y2, hF⟩ := hF
  refine rx_ci (rx_rVN C (w_X2_changePride e_y2 b_p) Y_X2_changePride V_X2_changePride m_X8_338 (Or.inl ⟨_, _, _, _, b_p.1, rfl⟩) ⟨⟨rfl, rfl⟩, ⟨(Nat.le_of_ble_eq_true rfl), (Nat.le_of_ble_eq_true rfl)⟩, ⟨(Nat.le_of_ble_eq_true rfl), (Nat.le_of_ble_eq_true rfl)⟩⟩ rfl rfl (Nat.le_of_ble_eq_true rfl) dX8_setPride_15) (fun r hh n1 hpp => ?_)
  obtain ⟨rfl, hn, c_p, ff⟩ := hpp
  replace hn : n = n1 := Eq.symm hn
  subst hn
  replace b_p : bP k (b + 21) (b + 12) y2.2 hh := c_p
  clear c_p
  replace ff : rx_fr [(b + 21, 10)] _ hh := ff
  replace b_B := b_B.keep ff ⟨s_B_p, trivial⟩
  replace b_s := b_s.keep ff ⟨s_s_p, trivial⟩
  replace b_w := b_w.keep ff ⟨s_w_p, trivial⟩
  replace b_e := b_e.keep ff ⟨s_e_p, trivial⟩
  replace b_H := b_H.keep ff ⟨s_H_p, trivial⟩
  replace fr := rx_frt fr ff (fun a ha => ⟨ha.1, trivial⟩)
  obtain rfl := Option.some.inj hF
  exact rx_iret C dX8_setPride_18 (Nat.le_refl _) (Nat.le_refl _) ⟨rfl, rfl, b_p, b_H, fr⟩
def F_X8_passTurns (oB : ob) (os : ob) (op : ob) (ow : ob) (oe : ob) (oH : hst) (x1 : Int32) : Option (Int32 × ob × ob × ob × hst) := (F_X8_allow oB os op ow oe oH 8 x1 ((0 : Int32))).bind fun y1 => (F_X2_passSeveral op ow oe os x1).bind fun y2 => some (y2.1, y2.2.1, y2.2.2.1, y2.2.2.2, y1)
set_option maxRecDepth 100000 in
set_option maxHeartbeats 4000000 in
theorem w_X8_passTurns {b : Nat} {oB : ob} {os : ob} {op : ob} {ow : ob} {oe : ob} {oH : hst} {x1 : Int32} {y : Int32 × ob × ob × ob × hst} (hF : F_X8_passTurns oB os op ow oe oH x1 = some y) (b_B : bB k b oB h) (b_s : bS k (b + 12) os h) (b_p : bP k (b + 21) (b + 12) op h) (b_w : bQ k (b + 21 + 10) ow h) (b_e : bQ k (b + 21 + 13) oe h) (b_H : bHH k (b + 69) (b + 12) oH h) : Met l yX8_passTurns (rx_ws yX8_passTurns cX8_passTurns 2 (some .int)) (rx_rm 6 149) (va_Pc [.ref b, .int x1] (rx_G G k h n)) (va_Qi (fun r u => y.1 = r ∧ u.2 = n ∧ bP k (b + 21) (b + 12) y.2.1 u.1 ∧ bQ k (b + 21 + 10) y.2.2.1 u.1 ∧ bQ k (b + 21 + 13) y.2.2.2.1 u.1 ∧ bHH k (b + 69) (b + 12) y.2.2.2.2 u.1 ∧ rx_fr [(b + 21, 10), (b + 21 + 10, 3), (b + 21 + 13, 3), (b + 69, 130)] h u.1) (rx_B G k) (rx_A k)) 0 0 (rx_A k) := by
  have s_B_H : b + 1 ≤ b + 69 ∨ b + 69 + 130 ≤ b := by omega
  have s_s_H : b + 12 + 9 ≤ b + 69 ∨ b + 69 + 130 ≤ b + 12 := by omega
  have s_p_H : b + 21 + 10 ≤ b + 69 ∨ b + 69 + 130 ≤ b + 21 := by omega
  have s_w_H : b + 21 + 10 + 3 ≤ b + 69 ∨ b + 69 + 130 ≤ b + 21 + 10 := by omega
  have s_e_H : b + 21 + 13 + 3 ≤ b + 69 ∨ b + 69 + 130 ≤ b + 21 + 13 := by omega
  have s_B_p : b + 1 ≤ b + 21 ∨ b + 21 + 10 ≤ b := by omega
  have s_B_w : b + 1 ≤ b + 21 + 10 ∨ b + 21 + 10 + 3 ≤ b := by omega
  have s_B_e : b + 1 ≤ b + 21 + 13 ∨ b + 21 + 13 + 3 ≤ b := by omega
  have s_s_p : b + 12 + 9 ≤ b + 21 ∨ b + 21 + 10 ≤ b + 12 := by omega
  have s_s_w : b + 12 + 9 ≤ b + 21 + 10 ∨ b + 21 + 10 + 3 ≤ b + 12 := by omega
  have s_s_e : b + 12 + 9 ≤ b + 21 + 13 ∨ b + 21 + 13 + 3 ≤ b + 12 := by omega
  have s_H_p : b + 69 + 130 ≤ b + 21 ∨ b + 21 + 10 ≤ b + 69 := by omega
  have s_H_w : b + 69 + 130 ≤ b + 21 + 10 ∨ b + 21 + 10 + 3 ≤ b + 69 := by omega
  have s_H_e : b + 69 + 130 ≤ b + 21 + 13 ∨ b + 21 + 13 + 3 ≤ b + 69 := by omega
  refine rx_start [(0, .ref b), (1, .int x1)] rfl (Nat.le_of_ble_eq_true rfl) (by decide) rfl (fun P9 E9 S9 M9 A9 B9 me9 c9 C hname => ?_)
  unfold F_X8_passTurns at hF
  have fr : rx_fr [(b + 21, 10), (b + 21 + 10, 3), (b + 21 + 13, 3), (b + 69, 130)] h h := rx_fr0
  refine rx_aload_n C dX8_passTurns_0 0 rfl ?_
  refine rx_gets C (C.2.2.2.2.2.2.2.2.2.1 8 (by decide)).1 sf_X8_341 dX8_passTurns_1 ?_
  refine rx_iload_n C dX8_passTurns_4 1 rfl ?_
  refine rx_iconst C dX8_passTurns_5 (0 : Int32) (by decide) ?_
  replace hF := rx_biE hF; obtain ⟨y1, e_y1, hF⟩ := hF
  refine rx_cv (rx_rV C (w_X8_allow e_y1 b_B b_s b_p b_w b_e b_H (by decide)) Y_X8_allow V_X8_allow m_X8_292 (Or.inl ⟨_, _, _, _, b_B, rfl⟩) ⟨⟨rfl, rfl⟩, ⟨(Nat.le_of_ble_eq_true rfl), (Nat.le_of_ble_eq_true rfl)⟩, ⟨(Nat.le_of_ble_eq_true rfl), (Nat.le_of_ble_eq_true rfl)⟩⟩ rfl rfl (Nat.le_of_ble_eq_true rfl) dX8_passTurns_6) (fun hh n1 hpp => ?_)
  obtain ⟨hn, c_H, ff⟩ := hpp
  replace hn : n = n1 := Eq.symm hn
  subst hn
  replace b_H : bHH k (b + 69) (b + 12) y1 hh := c_H
  clear c_H
  replace ff : rx_fr [(b + 69, 130)] _ hh := ff
  replace b_B := b_B.keep ff ⟨s_B_H, trivial⟩
  replace b_s := b_s.keep ff ⟨s_s_H, trivial⟩
  replace b_p := b_p.keep ff ⟨s_p_H, trivial⟩
  replace b_w := b_w.keep ff ⟨s_w_H, trivial⟩
  replace b_e := b_e.keep ff ⟨s_e_H, trivial⟩
  replace fr := rx_frt fr ff (fun a ha => ⟨ha.2.2.2.1, trivial⟩)
  refine rx_aload_n C dX8_passTurns_9 0 rfl ?_
  refine rx_getf C f_X8_31 dX8_passTurns_10 b_B rfl ?_
  refine rx_iload_n C dX8_passTurns_13 1 rfl ?_
  replace hF := rx_biE hF; obtain ⟨y2, e_y2, hF⟩ := hF
  refine rx_ci (rx_rVN C (w_X2_passSeveral e_y2 b_p b_w b_e b_s (by omega)) Y_X2_passSeveral V_X2_passSeveral m_X8_344 (Or.inl ⟨_, _, _, _, b_p.1, rfl⟩) ⟨⟨rfl, rfl⟩, ⟨(Nat.le_of_ble_eq_true rfl), (Nat.le_of_ble_eq_true rfl)⟩, ⟨(Nat.le_of_ble_eq_true rfl), (Nat.le_of_ble_eq_true rfl)⟩⟩ rfl rfl (Nat.le_of_ble_eq_true rfl) dX8_passTurns_14) (fun r hh n1 hpp => ?_)
  obtain ⟨rfl, hn, c_p, c_w, c_e, ff⟩ := hpp
  replace hn : n = n1 := Eq.symm hn
  subst hn
  replace b_p : bP k (b + 21) (b + 12) y2.2.1 hh := c_p
  clear c_p
  replace b_w : bQ k (b + 21 + 10) y2.2.2.1 hh := c_w
  clear c_w
  replace b_e : bQ k (b + 21 + 13) y2.2.2.2 hh := c_e
  clear c_e
  replace ff : rx_fr [(b + 21, 10), (b + 21 + 10, 3), (b + 21 + 13, 3)] _ hh := ff
  replace b_B := b_B.keep ff ⟨s_B_p, s_B_w, s_B_e, trivial⟩
  replace b_s := b_s.keep ff ⟨s_s_p, s_s_w, s_s_e, trivial⟩
  replace b_H := b_H.keep ff ⟨s_H_p, s_H_w, s_H_e, trivial⟩
  replace fr := rx_frt fr ff (fun a ha => ⟨ha.1, ha.2.1, ha.2.2.1, trivial⟩)
  obtain rfl := Option.some.inj hF
  exact rx_iret C dX8_passTurns_17 (Nat.le_refl _) (Nat.le_refl _) ⟨rfl, rfl, b_p, b_w, b_e, b_H, fr⟩
end GEN
