section GEN
variable {l : Launch} {G : va_G} {k : Nat → Nat} {h : hp} {n : Nat}
def F_X8_requireKing (oB : ob) (os : ob) (x1 : Int32) : Option (Int32) := (F_X8_requirePerson oB os x1).bind fun y1 => if y1 = (0 : Int32) then ((F_X5_hasKing os x1).bind fun y2 => if y2 = (0 : Int32) then (some ((2 : Int32))) else (some ((0 : Int32)))) else (some y1)
set_option maxRecDepth 100000 in
set_option maxHeartbeats 4000000 in
theorem w_X8_requireKing {b : Nat} {oB : ob} {os : ob} {x1 : Int32} {y : Int32} (hst : l.stackTraces = false) (hF : F_X8_requireKing oB os x1 = some y) (b_B : bB k b oB h) (b_s : bS k (b + 12) os h) : vx_Met l yX8_requireKing (rx_ws yX8_requireKing cX8_requireKing 2 none) (rx_rmX 7 103 2 12) (va_Pc [.ref b, .int x1] (rx_G G k h n)) (va_Qv (fun u => y = 0 ∧ u = (h, n)) (rx_B G k) (rx_A k)) (rx_XC G k (fun E u => ¬ y = 0 ∧ E = rx_ex y ∧ u.1 = h ∧ n ≤ u.2)) 2 12 (rx_A k) := by
  refine rx_startX [(0, .ref b), (1, .int x1)] rfl (Nat.le_of_ble_eq_true rfl) (by decide) (fun P9 E9 S9 M9 A9 B9 me9 c9 C hno => ?_)
  unfold F_X8_requireKing at hF
  refine rx_aload_n C dX8_requireKing_0 0 rfl ?_
  refine rx_iload_n C dX8_requireKing_1 1 rfl ?_
  replace hF := rx_biE hF; obtain ⟨y1, e_y1, hF⟩ := hF
  refine rx_xcv (rx_rVX C (w_X8_requirePerson hst e_y1 b_B b_s) Y_X8_requirePerson V_X8_requirePerson m_X8_148 (Or.inl ⟨_, _, _, _, b_B, rfl⟩) ⟨⟨rfl, rfl⟩, ⟨(Nat.le_of_ble_eq_true rfl), (Nat.le_of_ble_eq_true rfl)⟩, ⟨(Nat.le_of_ble_eq_true rfl), (Nat.le_of_ble_eq_true rfl)⟩⟩ rfl rfl (Nat.le_of_ble_eq_true rfl) dX8_requireKing_2) (fun E hh n1 hx => ?_) (fun hh n1 hpp => ?_)
  · obtain ⟨hx0, hx1, hx2, hx3⟩ := hx
    rw [if_neg hx0] at hF
    obtain rfl := Option.some.inj hF
    subst hx1
    replace hx2 : hh = h := hx2
    subst hx2
    exact rx_xout C hno (Nat.le_of_ble_eq_true rfl) (Nat.le_of_ble_eq_true rfl) ⟨hx0, rfl, rfl, hx3⟩
  obtain ⟨hz0_y1, hu⟩ := hpp
  cases hu
  rw [if_pos hz0_y1] at hF
  refine rx_aload_n C dX8_requireKing_5 0 rfl ?_
  refine rx_getf C f_X8_23 dX8_requireKing_6 b_B rfl ?_
  refine rx_iload_n C dX8_requireKing_9 1 rfl ?_
  replace hF := rx_biE hF; obtain ⟨y2, e_y2, hF⟩ := hF
  refine rx_ci (rx_rVN C (w_X5_hasKing e_y2 b_s) Y_X5_hasKing V_X5_hasKing m_X8_151 (Or.inl ⟨_, _, _, _, b_s.1, rfl⟩) ⟨⟨rfl, rfl⟩, ⟨(Nat.le_of_ble_eq_true rfl), (Nat.le_of_ble_eq_true rfl)⟩, ⟨(Nat.le_of_ble_eq_true rfl), (Nat.le_of_ble_eq_true rfl)⟩⟩ rfl rfl (Nat.le_of_ble_eq_true rfl) dX8_requireKing_10) (fun r hh n1 hpp => ?_)
  obtain ⟨rfl, bo_y2, hu⟩ := hpp
  cases hu
  refine rx_if_ne C dX8_requireKing_13 27 (by decide) (fun c3 => ?_) (fun c3 => ?_)
  · rw [if_neg c3] at hF
    obtain rfl := Option.some.inj hF
    exact rx_xret (rx_vret C dX8_requireKing_27 (Nat.le_of_ble_eq_true rfl) (Nat.le_of_ble_eq_true rfl) ⟨rfl, rfl⟩)
  · rw [if_pos c3] at hF
    obtain rfl := Option.some.inj hF
    exact rx_throwW (t := 9) C hst XW_179_183 (List.mem_of_getElem? (i := 9) rfl) hno dX8_requireKing_16 dX8_requireKing_19 dX8_requireKing_20 dX8_requireKing_23 dX8_requireKing_26 (Nat.le_of_ble_eq_true rfl) (Nat.le_of_ble_eq_true rfl) (Nat.le_of_ble_eq_true rfl) (Nat.le_of_ble_eq_true rfl) (Nat.le_of_ble_eq_true rfl) (Nat.le_of_ble_eq_true rfl) (fun n1 hn1 => ⟨(show ¬ (2 : Int32) = 0 by decide), rfl, rfl, hn1⟩)
def F_X8_royalHolder (oB : ob) (os : ob) (op : ob) (x1 : Int32) : Option (Int32 × Int32) := (F_X8_requireKing oB os x1).bind fun y1 => if y1 = (0 : Int32) then (some ((0 : Int32), (rx_at 10 (op.2 10) x1))) else (some (y1, (0 : Int32)))
set_option maxRecDepth 100000 in
set_option maxHeartbeats 4000000 in
theorem w_X8_royalHolder {b : Nat} {oB : ob} {os : ob} {op : ob} {x1 : Int32} {y : Int32 × Int32} (hst : l.stackTraces = false) (hF : F_X8_royalHolder oB os op x1 = some y) (b_B : bB k b oB h) (b_s : bS k (b + 12) os h) (b_p : bP k (b + 21) (b + 12) op h) : vx_Met l yX8_royalHolder (rx_ws yX8_royalHolder cX8_royalHolder 2 (some .int)) (rx_rmX 8 124 2 12) (va_Pc [.ref b, .int x1] (rx_G G k h n)) (va_Qi (fun r u => y.1 = 0 ∧ y.2 = r ∧ u = (h, n)) (rx_B G k) (rx_A k)) (rx_XC G k (fun E u => ¬ y.1 = 0 ∧ E = rx_ex y.1 ∧ u.1 = h ∧ n ≤ u.2)) 2 12 (rx_A k) := by
  refine rx_startX [(0, .ref b), (1, .int x1)] rfl (Nat.le_of_ble_eq_true rfl) (by decide) (fun P9 E9 S9 M9 A9 B9 me9 c9 C hno => ?_)
  unfold F_X8_royalHolder at hF
  refine rx_aload_n C dX8_royalHolder_0 0 rfl ?_
  refine rx_iload_n C dX8_royalHolder_1 1 rfl ?_
  replace hF := rx_biE hF; obtain ⟨y1, e_y1, hF⟩ := hF
  refine rx_xcv (rx_rVX C (w_X8_requireKing hst e_y1 b_B b_s) Y_X8_requireKing V_X8_requireKing m_X8_211 (Or.inl ⟨_, _, _, _, b_B, rfl⟩) ⟨⟨rfl, rfl⟩, ⟨(Nat.le_of_ble_eq_true rfl), (Nat.le_of_ble_eq_true rfl)⟩, ⟨(Nat.le_of_ble_eq_true rfl), (Nat.le_of_ble_eq_true rfl)⟩⟩ rfl rfl (Nat.le_of_ble_eq_true rfl) dX8_royalHolder_2) (fun E hh n1 hx => ?_) (fun hh n1 hpp => ?_)
  · obtain ⟨hx0, hx1, hx2, hx3⟩ := hx
    rw [if_neg hx0] at hF
    obtain rfl := Option.some.inj hF
    subst hx1
    replace hx2 : hh = h := hx2
    subst hx2
    exact rx_xout C hno (Nat.le_of_ble_eq_true rfl) (Nat.le_of_ble_eq_true rfl) ⟨hx0, rfl, rfl, hx3⟩
  obtain ⟨hz0_y1, hu⟩ := hpp
  cases hu
  rw [if_pos hz0_y1] at hF
  refine rx_aload_n C dX8_royalHolder_5 0 rfl ?_
  refine rx_getf C f_X8_31 dX8_royalHolder_6 b_B rfl ?_
  refine rx_getfN C f_X8_214 dX8_royalHolder_9 b_p.1 rfl ?_
  refine rx_iload_n C dX8_royalHolder_12 1 rfl ?_
  refine rx_ci (rx_rS C (w_at b_p.2.2.2.2.2.2.2.1 (by decide)) Y_X8_at S_X8_at m_X8_136 ⟨⟨rfl, rfl⟩, ⟨(Nat.le_of_ble_eq_true rfl), (Nat.le_of_ble_eq_true rfl)⟩, ⟨(Nat.le_of_ble_eq_true rfl), (Nat.le_of_ble_eq_true rfl)⟩⟩ rfl rfl (Nat.le_of_ble_eq_true rfl) dX8_royalHolder_13) (fun r hh n1 hpp => ?_)
  obtain ⟨rfl, hu⟩ := hpp
  cases hu
  obtain rfl := Option.some.inj hF
  exact rx_xret (rx_iret C dX8_royalHolder_16 (Nat.le_of_ble_eq_true rfl) (Nat.le_of_ble_eq_true rfl) ⟨rfl, rfl, rfl⟩)
def F_X8_isRoyalCoinEast (oB : ob) (os : ob) (op : ob) (x1 : Int32) : Option (Int32 × Int32) := (F_X8_requireKing oB os x1).bind fun y1 => if y1 = (0 : Int32) then ((F_X2_royalCoinBank op x1).bind fun y2 => if y2 = (1 : Int32) then (some ((0 : Int32), (1 : Int32))) else (some ((0 : Int32), (0 : Int32)))) else (some (y1, (0 : Int32)))
set_option maxRecDepth 100000 in
set_option maxHeartbeats 4000000 in
theorem w_X8_isRoyalCoinEast {b : Nat} {oB : ob} {os : ob} {op : ob} {x1 : Int32} {y : Int32 × Int32} (hst : l.stackTraces = false) (hF : F_X8_isRoyalCoinEast oB os op x1 = some y) (b_B : bB k b oB h) (b_s : bS k (b + 12) os h) (b_p : bP k (b + 21) (b + 12) op h) : vx_Met l yX8_isRoyalCoinEast (rx_ws yX8_isRoyalCoinEast cX8_isRoyalCoinEast 2 (some .boolean)) (rx_rmX 8 124 2 12) (va_Pc [.ref b, .int x1] (rx_G G k h n)) (va_Qi (fun r u => y.1 = 0 ∧ y.2 = r ∧ (y.2 = 0 ∨ y.2 = 1) ∧ u = (h, n)) (rx_B G k) (rx_A k)) (rx_XC G k (fun E u => ¬ y.1 = 0 ∧ E = rx_ex y.1 ∧ u.1 = h ∧ n ≤ u.2)) 2 12 (rx_A k) := by
  refine rx_startX [(0, .ref b), (1, .int x1)] rfl (Nat.le_of_ble_eq_true rfl) (by decide) (fun P9 E9 S9 M9 A9 B9 me9 c9 C hno => ?_)
  unfold F_X8_isRoyalCoinEast at hF
  refine rx_aload_n C dX8_isRoyalCoinEast_0 0 rfl ?_
  refine rx_iload_n C dX8_isRoyalCoinEast_1 1 rfl ?_
  replace hF := rx_biE hF; obtain ⟨y1, e_y1, hF⟩ := hF
  refine rx_xcv (rx_rVX C (w_X8_requireKing hst e_y1 b_B b_s) Y_X8_requireKing V_X8_requireKing m_X8_211 (Or.inl ⟨_, _, _, _, b_B, rfl⟩) ⟨⟨rfl, rfl⟩, ⟨(Nat.le_of_ble_eq_true rfl), (Nat.le_of_ble_eq_true rfl)⟩, ⟨(Nat.le_of_ble_eq_true rfl), (Nat.le_of_ble_eq_true rfl)⟩⟩ rfl rfl (Nat.le_of_ble_eq_true rfl) dX8_isRoyalCoinEast_2) (fun E hh n1 hx => ?_) (fun hh n1 hpp => ?_)
  · obtain ⟨hx0, hx1, hx2, hx3⟩ := hx
    rw [if_neg hx0] at hF
    obtain rfl := Option.some.inj hF
    subst hx1
    replace hx2 : hh = h := hx2
    subst hx2
    exact rx_xout C hno (Nat.le_of_ble_eq_true rfl) (Nat.le_of_ble_eq_true rfl) ⟨hx0, rfl, rfl, hx3⟩
  obtain ⟨hz0_y1, hu⟩ := hpp
  cases hu
  rw [if_pos hz0_y1] at hF
  refine rx_aload_n C dX8_isRoyalCoinEast_5 0 rfl ?_
  refine rx_getf C f_X8_31 dX8_isRoyalCoinEast_6 b_B rfl ?_
  refine rx_iload_n C dX8_isRoyalCoinEast_9 1 rfl ?_
  replace hF := rx_biE hF; obtain ⟨y2, e_y2, hF⟩ := hF
  refine rx_ci (rx_rVN C (w_X2_royalCoinBank e_y2 b_p) Y_X2_royalCoinBank V_X2_royalCoinBank m_X8_217 (Or.inl ⟨_, _, _, _, b_p.1, rfl⟩) ⟨⟨rfl, rfl⟩, ⟨(Nat.le_of_ble_eq_true rfl), (Nat.le_of_ble_eq_true rfl)⟩, ⟨(Nat.le_of_ble_eq_true rfl), (Nat.le_of_ble_eq_true rfl)⟩⟩ rfl rfl (Nat.le_of_ble_eq_true rfl) dX8_isRoyalCoinEast_10) (fun r hh n1 hpp => ?_)
  obtain ⟨rfl, hu⟩ := hpp
  cases hu
  refine rx_iconst C dX8_isRoyalCoinEast_13 (1 : Int32) (by decide) ?_
  refine rx_icmp_ne C dX8_isRoyalCoinEast_14 21 (by decide) (fun c3 => ?_) (fun c3 => ?_)
  · rw [if_neg c3] at hF
    refine rx_iconst C dX8_isRoyalCoinEast_21 (0 : Int32) (by decide) ?_
    obtain rfl := Option.some.inj hF
    exact rx_xret (rx_zret C (rx_nz (Or.inl rfl)) dX8_isRoyalCoinEast_22 (Nat.le_of_ble_eq_true rfl) (Nat.le_of_ble_eq_true rfl) ⟨rfl, rfl, (Or.inl rfl), rfl⟩)
  · rw [if_pos c3] at hF
    refine rx_iconst C dX8_isRoyalCoinEast_17 (1 : Int32) (by decide) ?_
    refine rx_goto C dX8_isRoyalCoinEast_18 22 (by decide) ?_
    obtain rfl := Option.some.inj hF
    exact rx_xret (rx_zret C (rx_nz (Or.inr rfl)) dX8_isRoyalCoinEast_22 (Nat.le_of_ble_eq_true rfl) (Nat.le_of_ble_eq_true rfl) ⟨rfl, rfl, (Or.inr rfl), rfl⟩)
def F_X8_isCounted (oB : ob) (os : ob) (op : ob) (x1 : Int32) : Option (Int32 × Int32) := (F_X8_requireKing oB os x1).bind fun y1 => if y1 = (0 : Int32) then (if (rx_at 10 (op.2 12) x1) = (1 : Int32) then (some ((0 : Int32), (1 : Int32))) else (some ((0 : Int32), (0 : Int32)))) else (some (y1, (0 : Int32)))
set_option maxRecDepth 100000 in
set_option maxHeartbeats 4000000 in
theorem w_X8_isCounted {b : Nat} {oB : ob} {os : ob} {op : ob} {x1 : Int32} {y : Int32 × Int32} (hst : l.stackTraces = false) (hF : F_X8_isCounted oB os op x1 = some y) (b_B : bB k b oB h) (b_s : bS k (b + 12) os h) (b_p : bP k (b + 21) (b + 12) op h) : vx_Met l yX8_isCounted (rx_ws yX8_isCounted cX8_isCounted 2 (some .boolean)) (rx_rmX 8 124 2 12) (va_Pc [.ref b, .int x1] (rx_G G k h n)) (va_Qi (fun r u => y.1 = 0 ∧ y.2 = r ∧ (y.2 = 0 ∨ y.2 = 1) ∧ u = (h, n)) (rx_B G k) (rx_A k)) (rx_XC G k (fun E u => ¬ y.1 = 0 ∧ E = rx_ex y.1 ∧ u.1 = h ∧ n ≤ u.2)) 2 12 (rx_A k) := by
  refine rx_startX [(0, .ref b), (1, .int x1)] rfl (Nat.le_of_ble_eq_true rfl) (by decide) (fun P9 E9 S9 M9 A9 B9 me9 c9 C hno => ?_)
  unfold F_X8_isCounted at hF
  refine rx_aload_n C dX8_isCounted_0 0 rfl ?_
  refine rx_iload_n C dX8_isCounted_1 1 rfl ?_
  replace hF := rx_biE hF; obtain ⟨y1, e_y1, hF⟩ := hF
  refine rx_xcv (rx_rVX C (w_X8_requireKing hst e_y1 b_B b_s) Y_X8_requireKing V_X8_requireKing m_X8_211 (Or.inl ⟨_, _, _, _, b_B, rfl⟩) ⟨⟨rfl, rfl⟩, ⟨(Nat.le_of_ble_eq_true rfl), (Nat.le_of_ble_eq_true rfl)⟩, ⟨(Nat.le_of_ble_eq_true rfl), (Nat.le_of_ble_eq_true rfl)⟩⟩ rfl rfl (Nat.le_of_ble_eq_true rfl) dX8_isCounted_2) (fun E hh n1 hx => ?_) (fun hh n1 hpp => ?_)
  · obtain ⟨hx0, hx1, hx2, hx3⟩ := hx
    rw [if_neg hx0] at hF
    obtain rfl := Option.some.inj hF
    subst hx1
    replace hx2 : hh = h := hx2
    subst hx2
    exact rx_xout C hno (Nat.le_of_ble_eq_true rfl) (Nat.le_of_ble_eq_true rfl) ⟨hx0, rfl, rfl, hx3⟩
  obtain ⟨hz0_y1, hu⟩ := hpp
  cases hu
  rw [if_pos hz0_y1] at hF
  refine rx_aload_n C dX8_isCounted_5 0 rfl ?_
  refine rx_getf C f_X8_31 dX8_isCounted_6 b_B rfl ?_
  refine rx_getfN C f_X8_220 dX8_isCounted_9 b_p.1 rfl ?_
  refine rx_iload_n C dX8_isCounted_12 1 rfl ?_
  refine rx_ci (rx_rS C (w_at b_p.2.2.2.2.2.2.2.2.2 (by decide)) Y_X8_at S_X8_at m_X8_136 ⟨⟨rfl, rfl⟩, ⟨(Nat.le_of_ble_eq_true rfl), (Nat.le_of_ble_eq_true rfl)⟩, ⟨(Nat.le_of_ble_eq_true rfl), (Nat.le_of_ble_eq_true rfl)⟩⟩ rfl rfl (Nat.le_of_ble_eq_true rfl) dX8_isCounted_13) (fun r hh n1 hpp => ?_)
  obtain ⟨rfl, hu⟩ := hpp
  cases hu
  refine rx_iconst C dX8_isCounted_16 (1 : Int32) (by decide) ?_
  refine rx_icmp_ne C dX8_isCounted_17 24 (by decide) (fun c2 => ?_) (fun c2 => ?_)
  · rw [if_neg c2] at hF
    refine rx_iconst C dX8_isCounted_24 (0 : Int32) (by decide) ?_
    obtain rfl := Option.some.inj hF
    exact rx_xret (rx_zret C (rx_nz (Or.inl rfl)) dX8_isCounted_25 (Nat.le_of_ble_eq_true rfl) (Nat.le_of_ble_eq_true rfl) ⟨rfl, rfl, (Or.inl rfl), rfl⟩)
  · rw [if_pos c2] at hF
    refine rx_iconst C dX8_isCounted_20 (1 : Int32) (by decide) ?_
    refine rx_goto C dX8_isCounted_21 25 (by decide) ?_
    obtain rfl := Option.some.inj hF
    exact rx_xret (rx_zret C (rx_nz (Or.inr rfl)) dX8_isCounted_25 (Nat.le_of_ble_eq_true rfl) (Nat.le_of_ble_eq_true rfl) ⟨rfl, rfl, (Or.inr rfl), rfl⟩)
def F_X8_royalCoins (oB : ob) (os : ob) (op : ob) (x1 : Int32) : Option (Int32 × Int32) := (F_X8_requirePerson oB os x1).bind fun y1 => if y1 = (0 : Int32) then ((F_X2_royalCoinsOf op os x1).bind fun y2 => some ((0 : Int32), y2)) else (some (y1, (0 : Int32)))
set_option maxRecDepth 100000 in
set_option maxHeartbeats 4000000 in
theorem w_X8_royalCoins {b : Nat} {oB : ob} {os : ob} {op : ob} {x1 : Int32} {y : Int32 × Int32} (hst : l.stackTraces = false) (hF : F_X8_royalCoins oB os op x1 = some y) (b_B : bB k b oB h) (b_s : bS k (b + 12) os h) (b_p : bP k (b + 21) (b + 12) op h) : vx_Met l yX8_royalCoins (rx_ws yX8_royalCoins cX8_royalCoins 2 (some .int)) (rx_rmX 7 103 1 6) (va_Pc [.ref b, .int x1] (rx_G G k h n)) (va_Qi (fun r u => y.1 = 0 ∧ y.2 = r ∧ u = (h, n)) (rx_B G k) (rx_A k)) (rx_XC G k (fun E u => ¬ y.1 = 0 ∧ E = rx_ex y.1 ∧ u.1 = h ∧ n ≤ u.2)) 1 6 (rx_A k) := by
  refine rx_startX [(0, .ref b), (1, .int x1)] rfl (Nat.le_of_ble_eq_true rfl) (by decide) (fun P9 E9 S9 M9 A9 B9 me9 c9 C hno => ?_)
  unfold F_X8_royalCoins at hF
  refine rx_aload_n C dX8_royalCoins_0 0 rfl ?_
  refine rx_iload_n C dX8_royalCoins_1 1 rfl ?_
  replace hF := rx_biE hF; obtain ⟨y1, e_y1, hF⟩ := hF
  refine rx_xcv (rx_rVX C (w_X8_requirePerson hst e_y1 b_B b_s) Y_X8_requirePerson V_X8_requirePerson m_X8_148 (Or.inl ⟨_, _, _, _, b_B, rfl⟩) ⟨⟨rfl, rfl⟩, ⟨(Nat.le_of_ble_eq_true rfl), (Nat.le_of_ble_eq_true rfl)⟩, ⟨(Nat.le_of_ble_eq_true rfl), (Nat.le_of_ble_eq_true rfl)⟩⟩ rfl rfl (Nat.le_of_ble_eq_true rfl) dX8_royalCoins_2) (fun E hh n1 hx => ?_) (fun hh n1 hpp => ?_)
  · obtain ⟨hx0, hx1, hx2, hx3⟩ := hx
    rw [if_neg hx0] at hF
    obtain rfl := Option.some.inj hF
    subst hx1
    replace hx2 : hh = h := hx2
    subst hx2
    exact rx_xout C hno (Nat.le_of_ble_eq_true rfl) (Nat.le_of_ble_eq_true rfl) ⟨hx0, rfl, rfl, hx3⟩
  obtain ⟨hz0_y1, hu⟩ := hpp
  cases hu
  rw [if_pos hz0_y1] at hF
  refine rx_aload_n C dX8_royalCoins_5 0 rfl ?_
  refine rx_getf C f_X8_31 dX8_royalCoins_6 b_B rfl ?_
  refine rx_iload_n C dX8_royalCoins_9 1 rfl ?_
  replace hF := rx_biE hF; obtain ⟨y2, e_y2, hF⟩ := hF
  refine rx_ci (rx_rVN C (w_X2_royalCoinsOf e_y2 b_p b_s (by omega)) Y_X2_royalCoinsOf V_X2_royalCoinsOf m_X8_223 (Or.inl ⟨_, _, _, _, b_p.1, rfl⟩) ⟨⟨rfl, rfl⟩, ⟨(Nat.le_of_ble_eq_true rfl), (Nat.le_of_ble_eq_true rfl)⟩, ⟨(Nat.le_of_ble_eq_true rfl), (Nat.le_of_ble_eq_true rfl)⟩⟩ rfl rfl (Nat.le_of_ble_eq_true rfl) dX8_royalCoins_10) (fun r hh n1 hpp => ?_)
  obtain ⟨rfl, hu⟩ := hpp
  cases hu
  obtain rfl := Option.some.inj hF
  exact rx_xret (rx_iret C dX8_royalCoins_13 (Nat.le_of_ble_eq_true rfl) (Nat.le_of_ble_eq_true rfl) ⟨rfl, rfl, rfl⟩)
def F_X8_countedRoyalCoins (oB : ob) (os : ob) (op : ob) : Option (Int32) := (F_X2_countedInAll op os).bind fun y1 => some y1
set_option maxRecDepth 100000 in
set_option maxHeartbeats 4000000 in
theorem w_X8_countedRoyalCoins {b : Nat} {oB : ob} {os : ob} {op : ob} {y : Int32} (hF : F_X8_countedRoyalCoins oB os op = some y) (b_B : bB k b oB h) (b_s : bS k (b + 12) os h) (b_p : bP k (b + 21) (b + 12) op h) : Met l yX8_countedRoyalCoins (rx_ws yX8_countedRoyalCoins cX8_countedRoyalCoins 1 (some .int)) (rx_rm 2 43) (va_Pc [.ref b] (rx_G G k h n)) (va_Qi (fun r u => y = r ∧ u = (h, n)) (rx_B G k) (rx_A k)) 0 0 (rx_A k) := by
  refine rx_start [(0, .ref b)] rfl (Nat.le_of_ble_eq_true rfl) (by decide) rfl (fun P9 E9 S9 M9 A9 B9 me9 c9 C hname => ?_)
  unfold F_X8_countedRoyalCoins at hF
  refine rx_aload_n C dX8_countedRoyalCoins_0 0 rfl ?_
  refine rx_getf C f_X8_31 dX8_countedRoyalCoins_1 b_B rfl ?_
  replace hF := rx_biE hF; obtain ⟨y1, e_y1, hF⟩ := hF
  refine rx_ci (rx_rVN C (w_X2_countedInAll e_y1 b_p b_s (by omega)) Y_X2_countedInAll V_X2_countedInAll m_X8_226 (Or.inl ⟨_, _, _, _, b_p.1, rfl⟩) ⟨⟨rfl, rfl⟩, ⟨(Nat.le_of_ble_eq_true rfl), (Nat.le_of_ble_eq_true rfl)⟩, ⟨(Nat.le_of_ble_eq_true rfl), (Nat.le_of_ble_eq_true rfl)⟩⟩ rfl rfl (Nat.le_of_ble_eq_true rfl) dX8_countedRoyalCoins_4) (fun r hh n1 hpp => ?_)
  obtain ⟨rfl, hu⟩ := hpp
  cases hu
  obtain rfl := Option.some.inj hF
  exact rx_iret C dX8_countedRoyalCoins_7 (Nat.le_refl _) (Nat.le_refl _) ⟨rfl, rfl⟩
def F_X8_countedShare (oB : ob) (os : ob) (op : ob) : Option (UInt32) := (F_X5_kingsInAll os).bind fun y1 => if y1 = (0 : Int32) then (some FP.fconst0) else ((F_X2_countedInAll op os).bind fun y3 => (rx_fdv ((FP.i2f y3)) ((FP.i2f y1))).bind fun v4 => some v4)
set_option maxRecDepth 100000 in
set_option maxHeartbeats 4000000 in
theorem w_X8_countedShare {b : Nat} {oB : ob} {os : ob} {op : ob} {y : UInt32} (hF : F_X8_countedShare oB os op = some y) (b_B : bB k b oB h) (b_s : bS k (b + 12) os h) (b_p : bP k (b + 21) (b + 12) op h) : Met l yX8_countedShare (rx_ws yX8_countedShare cX8_countedShare 2 (some .float)) (rx_rm 2 43) (va_Pc [.ref b] (rx_G G k h n)) (va_Qf (fun r u => y = r ∧ u = (h, n)) (rx_B G k) (rx_A k)) 0 0 (rx_A k) := by
  refine rx_start [(0, .ref b)] rfl (Nat.le_of_ble_eq_true rfl) (by decide) rfl (fun P9 E9 S9 M9 A9 B9 me9 c9 C hname => ?_)
  unfold F_X8_countedShare at hF
  refine rx_aload_n C dX8_countedShare_0 0 rfl ?_
  refine rx_getf C f_X8_23 dX8_countedShare_1 b_B rfl ?_
  replace hF := rx_biE hF; obtain ⟨y1, e_y1, hF⟩ := hF
  refine rx_ci (rx_rVN C (w_X5_kingsInAll e_y1 b_s) Y_X5_kingsInAll V_X5_kingsInAll m_X8_140 (Or.inl ⟨_, _, _, _, b_s.1, rfl⟩) ⟨⟨rfl, rfl⟩, ⟨(Nat.le_of_ble_eq_true rfl), (Nat.le_of_ble_eq_true rfl)⟩, ⟨(Nat.le_of_ble_eq_true rfl), (Nat.le_of_ble_eq_true rfl)⟩⟩ rfl rfl (Nat.le_of_ble_eq_true rfl) dX8_countedShare_4) (fun r hh n1 hpp => ?_)
  obtain ⟨rfl, hu⟩ := hpp
  cases hu
  refine rx_istore_n C dX8_countedShare_7 (by decide) [(1, .int y1), (0, .ref b)] rfl ?_
  refine rx_iload_n C dX8_countedShare_8 0 rfl ?_
  refine rx_if_ne C dX8_countedShare_9 16 (by decide) (fun c2 => ?_) (fun c2 => ?_)
  · rw [if_neg c2] at hF
    refine rx_aload_n C dX8_countedShare_16 1 rfl ?_
    refine rx_getf C f_X8_31 dX8_countedShare_17 b_B rfl ?_
    replace hF := rx_biE hF; obtain ⟨y3, e_y3, hF⟩ := hF
    refine rx_ci (rx_rVN C (w_X2_countedInAll e_y3 b_p b_s (by omega)) Y_X2_countedInAll V_X2_countedInAll m_X8_226 (Or.inl ⟨_, _, _, _, b_p.1, rfl⟩) ⟨⟨rfl, rfl⟩, ⟨(Nat.le_of_ble_eq_true rfl), (Nat.le_of_ble_eq_true rfl)⟩, ⟨(Nat.le_of_ble_eq_true rfl), (Nat.le_of_ble_eq_true rfl)⟩⟩ rfl rfl (Nat.le_of_ble_eq_true rfl) dX8_countedShare_20) (fun r hh n1 hpp => ?_)
    obtain ⟨rfl, hu⟩ := hpp
    cases hu
    refine rx_i2f C dX8_countedShare_23 ?_
    refine rx_iload_n C dX8_countedShare_24 0 rfl ?_
    refine rx_i2f C dX8_countedShare_25 ?_
    replace hF := rx_biE hF; obtain ⟨v4, e_v4, hF⟩ := hF
    refine rx_fdivF C dX8_countedShare_26 e_v4 ?_
    obtain rfl := Option.some.inj hF
    exact rx_fret C dX8_countedShare_27 (Nat.le_refl _) (Nat.le_refl _) ⟨rfl, rfl⟩
  · rw [if_pos c2] at hF
    refine rx_fconst0 C dX8_countedShare_12 ?_
    refine rx_goto C dX8_countedShare_13 27 (by decide) ?_
    obtain rfl := Option.some.inj hF
    exact rx_fret C dX8_countedShare_27 (Nat.le_refl _) (Nat.le_refl _) ⟨rfl, rfl⟩
def F_X8_queueLength (oB : ob) (op : ob) (ow : ob) (oe : ob) (x1 : Int32) : Option (Int32) := (F_X8_bankOf x1).bind fun y1 => if y1 = (1 : Int32) then (some ((oe.1 2))) else (some ((ow.1 2)))
set_option maxRecDepth 100000 in
set_option maxHeartbeats 4000000 in
theorem w_X8_queueLength {b : Nat} {oB : ob} {op : ob} {ow : ob} {oe : ob} {x1 : Int32} {y : Int32} (hF : F_X8_queueLength oB op ow oe x1 = some y) (b_B : bB k b oB h) (b_p : bP k (b + 21) (b + 12) op h) (b_w : bQ k (b + 21 + 10) ow h) (b_e : bQ k (b + 21 + 13) oe h) : Met l yX8_queueLength (rx_ws yX8_queueLength cX8_queueLength 2 (some .int)) (rx_rm 1 21) (va_Pc [.ref b, .int x1] (rx_G G k h n)) (va_Qi (fun r u => y = r ∧ u = (h, n)) (rx_B G k) (rx_A k)) 0 0 (rx_A k) := by
  refine rx_start [(0, .ref b), (1, .int x1)] rfl (Nat.le_of_ble_eq_true rfl) (by decide) rfl (fun P9 E9 S9 M9 A9 B9 me9 c9 C hname => ?_)
  unfold F_X8_queueLength at hF
  refine rx_aload_n C dX8_queueLength_0 0 rfl ?_
  refine rx_getf C f_X8_31 dX8_queueLength_1 b_B rfl ?_
  refine rx_iload_n C dX8_queueLength_4 1 rfl ?_
  replace hF := rx_biE hF; obtain ⟨y1, e_y1, hF⟩ := hF
  refine rx_ci (rx_rS C (w_X8_bankOf e_y1 ) Y_X8_bankOf S_X8_bankOf m_X8_132 ⟨⟨rfl, rfl⟩, ⟨(Nat.le_of_ble_eq_true rfl), (Nat.le_of_ble_eq_true rfl)⟩, ⟨(Nat.le_of_ble_eq_true rfl), (Nat.le_of_ble_eq_true rfl)⟩⟩ rfl rfl (Nat.le_of_ble_eq_true rfl) dX8_queueLength_5) (fun r hh n1 hpp => ?_)
  obtain ⟨rfl, hu⟩ := hpp
  cases hu
  refine rx_cq (rx_rVN C (w_queueOn b_p.1) Y_X2_queueOn V_X2_queueOn m_X8_229 (Or.inl ⟨_, _, _, _, b_p.1, rfl⟩) ⟨⟨rfl, rfl⟩, ⟨(Nat.le_of_ble_eq_true rfl), (Nat.le_of_ble_eq_true rfl)⟩, ⟨(Nat.le_of_ble_eq_true rfl), (Nat.le_of_ble_eq_true rfl)⟩⟩ rfl rfl (Nat.le_of_ble_eq_true rfl) dX8_queueLength_8) (fun r hh n1 hpp => ?_)
  obtain ⟨rfl, hu⟩ := hpp
  cases hu
  by_cases c2 : y1 = (1 : Int32)
  · rw [if_pos c2] at hF ⊢
    show rx_W _ _ _ _ _ _ _ _ _ _ _ _ _ _ _ _ _ _ _ _ (.ref (b + 21 + 13) :: _)
    refine rx_getfN C f_X8_233 dX8_queueLength_11 b_e.1 rfl ?_
    obtain rfl := Option.some.inj hF
    exact rx_iret C dX8_queueLength_14 (Nat.le_refl _) (Nat.le_refl _) ⟨rfl, rfl⟩
  · rw [if_neg c2] at hF ⊢
    show rx_W _ _ _ _ _ _ _ _ _ _ _ _ _ _ _ _ _ _ _ _ (.ref (b + 21 + 10) :: _)
    refine rx_getfN C f_X8_233 dX8_queueLength_11 b_w.1 rfl ?_
    obtain rfl := Option.some.inj hF
    exact rx_iret C dX8_queueLength_14 (Nat.le_refl _) (Nat.le_refl _) ⟨rfl, rfl⟩
def F_X8_queued (oB : ob) (op : ob) (ow : ob) (oe : ob) (x1 : Int32) (x2 : Int32) : Option (Int32) := (F_X8_bankOf x1).bind fun y1 => if y1 = (1 : Int32) then ((F_X3_personAt oe x2).bind fun y3 => some y3) else ((F_X3_personAt ow x2).bind fun y4 => some y4)
set_option maxRecDepth 100000 in
set_option maxHeartbeats 4000000 in
theorem w_X8_queued {b : Nat} {oB : ob} {op : ob} {ow : ob} {oe : ob} {x1 : Int32} {x2 : Int32} {y : Int32} (hF : F_X8_queued oB op ow oe x1 x2 = some y) (b_B : bB k b oB h) (b_p : bP k (b + 21) (b + 12) op h) (b_w : bQ k (b + 21 + 10) ow h) (b_e : bQ k (b + 21 + 13) oe h) : Met l yX8_queued (rx_ws yX8_queued cX8_queued 3 (some .int)) (rx_rm 2 42) (va_Pc [.ref b, .int x1, .int x2] (rx_G G k h n)) (va_Qi (fun r u => y = r ∧ u = (h, n)) (rx_B G k) (rx_A k)) 0 0 (rx_A k) := by
  refine rx_start [(0, .ref b), (1, .int x1), (2, .int x2)] rfl (Nat.le_of_ble_eq_true rfl) (by decide) rfl (fun P9 E9 S9 M9 A9 B9 me9 c9 C hname => ?_)
  unfold F_X8_queued at hF
  refine rx_aload_n C dX8_queued_0 0 rfl ?_
  refine rx_getf C f_X8_31 dX8_queued_1 b_B rfl ?_
  refine rx_iload_n C dX8_queued_4 1 rfl ?_
  replace hF := rx_biE hF; obtain ⟨y1, e_y1, hF⟩ := hF
  refine rx_ci (rx_rS C (w_X8_bankOf e_y1 ) Y_X8_bankOf S_X8_bankOf m_X8_132 ⟨⟨rfl, rfl⟩, ⟨(Nat.le_of_ble_eq_true rfl), (Nat.le_of_ble_eq_true rfl)⟩, ⟨(Nat.le_of_ble_eq_true rfl), (Nat.le_of_ble_eq_true rfl)⟩⟩ rfl rfl (Nat.le_of_ble_eq_true rfl) dX8_queued_5) (fun r hh n1 hpp => ?_)
  obtain ⟨rfl, hu⟩ := hpp
  cases hu
  refine rx_cq (rx_rVN C (w_queueOn b_p.1) Y_X2_queueOn V_X2_queueOn m_X8_229 (Or.inl ⟨_, _, _, _, b_p.1, rfl⟩) ⟨⟨rfl, rfl⟩, ⟨(Nat.le_of_ble_eq_true rfl), (Nat.le_of_ble_eq_true rfl)⟩, ⟨(Nat.le_of_ble_eq_true rfl), (Nat.le_of_ble_eq_true rfl)⟩⟩ rfl rfl (Nat.le_of_ble_eq_true rfl) dX8_queued_8) (fun r hh n1 hpp => ?_)
  obtain ⟨rfl, hu⟩ := hpp
  cases hu
  by_cases c2 : y1 = (1 : Int32)
  · rw [if_pos c2] at hF ⊢
    show rx_W _ _ _ _ _ _ _ _ _ _ _ _ _ _ _ _ _ _ _ _ (.ref (b + 21 + 13) :: _)
    refine rx_iload_n C dX8_queued_11 2 rfl ?_
    replace hF := rx_biE hF; obtain ⟨y3, e_y3, hF⟩ := hF
    refine rx_ci (rx_rVN C (w_X3_personAt e_y3 b_e) Y_X3_personAt V_X3_personAt m_X8_238 (Or.inl ⟨_, _, _, _, b_e.1, rfl⟩) ⟨⟨rfl, rfl⟩, ⟨(Nat.le_of_ble_eq_true rfl), (Nat.le_of_ble_eq_true rfl)⟩, ⟨(Nat.le_of_ble_eq_true rfl), (Nat.le_of_ble_eq_true rfl)⟩⟩ rfl rfl (Nat.le_of_ble_eq_true rfl) dX8_queued_12) (fun r hh n1 hpp => ?_)
    obtain ⟨rfl, hu⟩ := hpp
    cases hu
    obtain rfl := Option.some.inj hF
    exact rx_iret C dX8_queued_15 (Nat.le_refl _) (Nat.le_refl _) ⟨rfl, rfl⟩
  · rw [if_neg c2] at hF ⊢
    show rx_W _ _ _ _ _ _ _ _ _ _ _ _ _ _ _ _ _ _ _ _ (.ref (b + 21 + 10) :: _)
    refine rx_iload_n C dX8_queued_11 2 rfl ?_
    replace hF := rx_biE hF; obtain ⟨y4, e_y4, hF⟩ := hF
    refine rx_ci (rx_rVN C (w_X3_personAt e_y4 b_w) Y_X3_personAt V_X3_personAt m_X8_238 (Or.inl ⟨_, _, _, _, b_w.1, rfl⟩) ⟨⟨rfl, rfl⟩, ⟨(Nat.le_of_ble_eq_true rfl), (Nat.le_of_ble_eq_true rfl)⟩, ⟨(Nat.le_of_ble_eq_true rfl), (Nat.le_of_ble_eq_true rfl)⟩⟩ rfl rfl (Nat.le_of_ble_eq_true rfl) dX8_queued_12) (fun r hh n1 hpp => ?_)
    obtain ⟨rfl, hu⟩ := hpp
    cases hu
    obtain rfl := Option.some.inj hF
    exact rx_iret C dX8_queued_15 (Nat.le_refl _) (Nat.le_refl _) ⟨rfl, rfl⟩
def F_X8_offer (oB : ob) (os : ob) (op : ob) (ow : ob) (oe : ob) (x1 : Int32) : Option (Int32 × Int32) := (F_X8_requirePerson oB os x1).bind fun y1 => if y1 = (0 : Int32) then ((F_X2_offerOf op ow oe x1).bind fun y2 => some ((0 : Int32), y2)) else (some (y1, (0 : Int32)))
set_option maxRecDepth 100000 in
set_option maxHeartbeats 4000000 in
theorem w_X8_offer {b : Nat} {oB : ob} {os : ob} {op : ob} {ow : ob} {oe : ob} {x1 : Int32} {y : Int32 × Int32} (hst : l.stackTraces = false) (hF : F_X8_offer oB os op ow oe x1 = some y) (b_B : bB k b oB h) (b_s : bS k (b + 12) os h) (b_p : bP k (b + 21) (b + 12) op h) (b_w : bQ k (b + 21 + 10) ow h) (b_e : bQ k (b + 21 + 13) oe h) : vx_Met l yX8_offer (rx_ws yX8_offer cX8_offer 2 (some .int)) (rx_rmX 7 103 1 6) (va_Pc [.ref b, .int x1] (rx_G G k h n)) (va_Qi (fun r u => y.1 = 0 ∧ y.2 = r ∧ u = (h, n)) (rx_B G k) (rx_A k)) (rx_XC G k (fun E u => ¬ y.1 = 0 ∧ E = rx_ex y.1 ∧ u.1 = h ∧ n ≤ u.2)) 1 6 (rx_A k) := by
  refine rx_startX [(0, .ref b), (1, .int x1)] rfl (Nat.le_of_ble_eq_true rfl) (by decide) (fun P9 E9 S9 M9 A9 B9 me9 c9 C hno => ?_)
  unfold F_X8_offer at hF
  refine rx_aload_n C dX8_offer_0 0 rfl ?_
  refine rx_iload_n C dX8_offer_1 1 rfl ?_
  replace hF := rx_biE hF; obtain ⟨y1, e_y1, hF⟩ := hF
  refine rx_xcv (rx_rVX C (w_X8_requirePerson hst e_y1 b_B b_s) Y_X8_requirePerson V_X8_requirePerson m_X8_148 (Or.inl ⟨_, _, _, _, b_B, rfl⟩) ⟨⟨rfl, rfl⟩, ⟨(Nat.le_of_ble_eq_true rfl), (Nat.le_of_ble_eq_true rfl)⟩, ⟨(Nat.le_of_ble_eq_true rfl), (Nat.le_of_ble_eq_true rfl)⟩⟩ rfl rfl (Nat.le_of_ble_eq_true rfl) dX8_offer_2) (fun E hh n1 hx => ?_) (fun hh n1 hpp => ?_)
  · obtain ⟨hx0, hx1, hx2, hx3⟩ := hx
    rw [if_neg hx0] at hF
    obtain rfl := Option.some.inj hF
    subst hx1
    replace hx2 : hh = h := hx2
    subst hx2
    exact rx_xout C hno (Nat.le_of_ble_eq_true rfl) (Nat.le_of_ble_eq_true rfl) ⟨hx0, rfl, rfl, hx3⟩
  obtain ⟨hz0_y1, hu⟩ := hpp
  cases hu
  rw [if_pos hz0_y1] at hF
  refine rx_aload_n C dX8_offer_5 0 rfl ?_
  refine rx_getf C f_X8_31 dX8_offer_6 b_B rfl ?_
  refine rx_iload_n C dX8_offer_9 1 rfl ?_
  replace hF := rx_biE hF; obtain ⟨y2, e_y2, hF⟩ := hF
  refine rx_ci (rx_rVN C (w_X2_offerOf e_y2 b_p b_w b_e) Y_X2_offerOf V_X2_offerOf m_X8_241 (Or.inl ⟨_, _, _, _, b_p.1, rfl⟩) ⟨⟨rfl, rfl⟩, ⟨(Nat.le_of_ble_eq_true rfl), (Nat.le_of_ble_eq_true rfl)⟩, ⟨(Nat.le_of_ble_eq_true rfl), (Nat.le_of_ble_eq_true rfl)⟩⟩ rfl rfl (Nat.le_of_ble_eq_true rfl) dX8_offer_10) (fun r hh n1 hpp => ?_)
  obtain ⟨rfl, hu⟩ := hpp
  cases hu
  obtain rfl := Option.some.inj hF
  exact rx_xret (rx_iret C dX8_offer_13 (Nat.le_of_ble_eq_true rfl) (Nat.le_of_ble_eq_true rfl) ⟨rfl, rfl, rfl⟩)
def F_X8_bridgeCount (oB : ob) (os : ob) : Option (Int32) := some ((os.1 5))
set_option maxRecDepth 100000 in
set_option maxHeartbeats 4000000 in
theorem w_X8_bridgeCount {b : Nat} {oB : ob} {os : ob} {y : Int32} (hF : F_X8_bridgeCount oB os = some y) (b_B : bB k b oB h) (b_s : bS k (b + 12) os h) : Met l yX8_bridgeCount (rx_ws yX8_bridgeCount cX8_bridgeCount 1 (some .int)) (rx_rm 0 0) (va_Pc [.ref b] (rx_G G k h n)) (va_Qi (fun r u => y = r ∧ u = (h, n)) (rx_B G k) (rx_A k)) 0 0 (rx_A k) := by
  refine rx_start [(0, .ref b)] rfl (Nat.le_of_ble_eq_true rfl) (by decide) rfl (fun P9 E9 S9 M9 A9 B9 me9 c9 C hname => ?_)
  unfold F_X8_bridgeCount at hF
  refine rx_aload_n C dX8_bridgeCount_0 0 rfl ?_
  refine rx_getf C f_X8_23 dX8_bridgeCount_1 b_B rfl ?_
  refine rx_getfN C f_X8_244 dX8_bridgeCount_4 b_s.1 rfl ?_
  obtain rfl := Option.some.inj hF
  exact rx_iret C dX8_bridgeCount_7 (Nat.le_refl _) (Nat.le_refl _) ⟨rfl, rfl⟩
def F_X8_isOpen (oB : ob) (os : ob) (op : ob) (x1 : Int32) : Option (Int32 × Int32) := if x1 < (0 : Int32) then (some ((1 : Int32), (0 : Int32))) else (if x1 < (os.1 5) then ((F_X5_opens os x1 ((op.1 1))).bind fun y3 => some ((0 : Int32), y3)) else (some ((1 : Int32), (0 : Int32))))
set_option maxRecDepth 100000 in
set_option maxHeartbeats 4000000 in
theorem w_X8_isOpen {b : Nat} {oB : ob} {os : ob} {op : ob} {x1 : Int32} {y : Int32 × Int32} (hst : l.stackTraces = false) (hF : F_X8_isOpen oB os op x1 = some y) (b_B : bB k b oB h) (b_s : bS k (b + 12) os h) (b_p : bP k (b + 21) (b + 12) op h) : vx_Met l yX8_isOpen (rx_ws yX8_isOpen cX8_isOpen 2 (some .boolean)) (rx_rmX 6 82 1 6) (va_Pc [.ref b, .int x1] (rx_G G k h n)) (va_Qi (fun r u => y.1 = 0 ∧ y.2 = r ∧ (y.2 = 0 ∨ y.2 = 1) ∧ u = (h, n)) (rx_B G k) (rx_A k)) (rx_XC G k (fun E u => ¬ y.1 = 0 ∧ E = rx_ex y.1 ∧ u.1 = h ∧ n ≤ u.2)) 1 6 (rx_A k) := by
  refine rx_startX [(0, .ref b), (1, .int x1)] rfl (Nat.le_of_ble_eq_true rfl) (by decide) (fun P9 E9 S9 M9 A9 B9 me9 c9 C hno => ?_)
  unfold F_X8_isOpen at hF
  refine rx_iload_n C dX8_isOpen_0 1 rfl ?_
  refine rx_if_lt C dX8_isOpen_1 15 (by decide) (fun c1 => ?_) (fun c1 => ?_)
  · rw [if_pos c1] at hF
    obtain rfl := Option.some.inj hF
    exact rx_throw (t := 10) C hst XW_247_251 (List.mem_of_getElem? (i := 10) rfl) hno dX8_isOpen_15 dX8_isOpen_18 dX8_isOpen_19 dX8_isOpen_21 dX8_isOpen_24 (Nat.le_of_ble_eq_true rfl) (Nat.le_of_ble_eq_true rfl) (Nat.le_of_ble_eq_true rfl) (Nat.le_of_ble_eq_true rfl) (Nat.le_of_ble_eq_true rfl) (Nat.le_of_ble_eq_true rfl) (fun n1 hn1 => ⟨(show ¬ (1 : Int32) = 0 by decide), rfl, rfl, hn1⟩)
  · rw [if_neg c1] at hF
    refine rx_iload_n C dX8_isOpen_4 1 rfl ?_
    refine rx_aload_n C dX8_isOpen_5 0 rfl ?_
    refine rx_getf C f_X8_23 dX8_isOpen_6 b_B rfl ?_
    refine rx_getfN C f_X8_244 dX8_isOpen_9 b_s.1 rfl ?_
    refine rx_icmp_lt C dX8_isOpen_12 25 (by decide) (fun c2 => ?_) (fun c2 => ?_)
    · rw [if_pos c2] at hF
      refine rx_aload_n C dX8_isOpen_25 0 rfl ?_
      refine rx_getf C f_X8_23 dX8_isOpen_26 b_B rfl ?_
      refine rx_iload_n C dX8_isOpen_29 1 rfl ?_
      refine rx_aload_n C dX8_isOpen_30 0 rfl ?_
      refine rx_getf C f_X8_31 dX8_isOpen_31 b_B rfl ?_
      refine rx_getfN C f_X8_120 dX8_isOpen_34 b_p.1 rfl ?_
      replace hF := rx_biE hF; obtain ⟨y3, e_y3, hF⟩ := hF
      refine rx_ci (rx_rVN C (w_X5_opens e_y3 b_s) Y_X5_opens V_X5_opens m_X8_252 (Or.inl ⟨_, _, _, _, b_s.1, rfl⟩) ⟨⟨rfl, rfl⟩, ⟨(Nat.le_of_ble_eq_true rfl), (Nat.le_of_ble_eq_true rfl)⟩, ⟨(Nat.le_of_ble_eq_true rfl), (Nat.le_of_ble_eq_true rfl)⟩⟩ rfl rfl (Nat.le_of_ble_eq_true rfl) dX8_isOpen_37) (fun r hh n1 hpp => ?_)
      obtain ⟨rfl, bo_y3, hu⟩ := hpp
      cases hu
      obtain rfl := Option.some.inj hF
      exact rx_xret (rx_zret C (rx_nz bo_y3) dX8_isOpen_40 (Nat.le_of_ble_eq_true rfl) (Nat.le_of_ble_eq_true rfl) ⟨rfl, rfl, bo_y3, rfl⟩)
    · rw [if_neg c2] at hF
      obtain rfl := Option.some.inj hF
      exact rx_throw (t := 10) C hst XW_247_251 (List.mem_of_getElem? (i := 10) rfl) hno dX8_isOpen_15 dX8_isOpen_18 dX8_isOpen_19 dX8_isOpen_21 dX8_isOpen_24 (Nat.le_of_ble_eq_true rfl) (Nat.le_of_ble_eq_true rfl) (Nat.le_of_ble_eq_true rfl) (Nat.le_of_ble_eq_true rfl) (Nat.le_of_ble_eq_true rfl) (Nat.le_of_ble_eq_true rfl) (fun n1 hn1 => ⟨(show ¬ (1 : Int32) = 0 by decide), rfl, rfl, hn1⟩)
def F_X8_room (oB : ob) (os : ob) (op : ob) : Option (Int32) := (F_X5_roomIn os ((op.1 1))).bind fun y1 => some y1
set_option maxRecDepth 100000 in
set_option maxHeartbeats 4000000 in
theorem w_X8_room {b : Nat} {oB : ob} {os : ob} {op : ob} {y : Int32} (hF : F_X8_room oB os op = some y) (b_B : bB k b oB h) (b_s : bS k (b + 12) os h) (b_p : bP k (b + 21) (b + 12) op h) : Met l yX8_room (rx_ws yX8_room cX8_room 1 (some .int)) (rx_rm 3 67) (va_Pc [.ref b] (rx_G G k h n)) (va_Qi (fun r u => y = r ∧ u = (h, n)) (rx_B G k) (rx_A k)) 0 0 (rx_A k) := by
  refine rx_start [(0, .ref b)] rfl (Nat.le_of_ble_eq_true rfl) (by decide) rfl (fun P9 E9 S9 M9 A9 B9 me9 c9 C hname => ?_)
  unfold F_X8_room at hF
  refine rx_aload_n C dX8_room_0 0 rfl ?_
  refine rx_getf C f_X8_23 dX8_room_1 b_B rfl ?_
  refine rx_aload_n C dX8_room_4 0 rfl ?_
  refine rx_getf C f_X8_31 dX8_room_5 b_B rfl ?_
  refine rx_getfN C f_X8_120 dX8_room_8 b_p.1 rfl ?_
  replace hF := rx_biE hF; obtain ⟨y1, e_y1, hF⟩ := hF
  refine rx_ci (rx_rVN C (w_X5_roomIn e_y1 b_s) Y_X5_roomIn V_X5_roomIn m_X8_256 (Or.inl ⟨_, _, _, _, b_s.1, rfl⟩) ⟨⟨rfl, rfl⟩, ⟨(Nat.le_of_ble_eq_true rfl), (Nat.le_of_ble_eq_true rfl)⟩, ⟨(Nat.le_of_ble_eq_true rfl), (Nat.le_of_ble_eq_true rfl)⟩⟩ rfl rfl (Nat.le_of_ble_eq_true rfl) dX8_room_11) (fun r hh n1 hpp => ?_)
  obtain ⟨rfl, hu⟩ := hpp
  cases hu
  obtain rfl := Option.some.inj hF
  exact rx_iret C dX8_room_14 (Nat.le_refl _) (Nat.le_refl _) ⟨rfl, rfl⟩
def F_X8_firstPlaceOffer (oB : ob) (os : ob) (op : ob) (ow : ob) (oe : ob) (x1 : Int32) : Option (Int32 × Int32) := (F_X8_requirePerson oB os x1).bind fun y1 => if y1 = (0 : Int32) then (if (rx_at 10 (op.2 5) x1) = (1 : Int32) then ((F_X3_offerToLead oe x1).bind fun y3 => some ((0 : Int32), y3)) else ((F_X3_offerToLead ow x1).bind fun y4 => some ((0 : Int32), y4))) else (some (y1, (0 : Int32)))
set_option maxRecDepth 100000 in
set_option maxHeartbeats 4000000 in
theorem w_X8_firstPlaceOffer {b : Nat} {oB : ob} {os : ob} {op : ob} {ow : ob} {oe : ob} {x1 : Int32} {y : Int32 × Int32} (hst : l.stackTraces = false) (hF : F_X8_firstPlaceOffer oB os op ow oe x1 = some y) (b_B : bB k b oB h) (b_s : bS k (b + 12) os h) (b_p : bP k (b + 21) (b + 12) op h) (b_w : bQ k (b + 21 + 10) ow h) (b_e : bQ k (b + 21 + 13) oe h) : vx_Met l yX8_firstPlaceOffer (rx_ws yX8_firstPlaceOffer cX8_firstPlaceOffer 2 (some .int)) (rx_rmX 7 103 1 6) (va_Pc [.ref b, .int x1] (rx_G G k h n)) (va_Qi (fun r u => y.1 = 0 ∧ y.2 = r ∧ u = (h, n)) (rx_B G k) (rx_A k)) (rx_XC G k (fun E u => ¬ y.1 = 0 ∧ E = rx_ex y.1 ∧ u.1 = h ∧ n ≤ u.2)) 1 6 (rx_A k) := by
  refine rx_startX [(0, .ref b), (1, .int x1)] rfl (Nat.le_of_ble_eq_true rfl) (by decide) (fun P9 E9 S9 M9 A9 B9 me9 c9 C hno => ?_)
  unfold F_X8_firstPlaceOffer at hF
  refine rx_aload_n C dX8_firstPlaceOffer_0 0 rfl ?_
  refine rx_iload_n C dX8_firstPlaceOffer_1 1 rfl ?_
  replace hF := rx_biE hF; obtain ⟨y1, e_y1, hF⟩ := hF
  refine rx_xcv (rx_rVX C (w_X8_requirePerson hst e_y1 b_B b_s) Y_X8_requirePerson V_X8_requirePerson m_X8_148 (Or.inl ⟨_, _, _, _, b_B, rfl⟩) ⟨⟨rfl, rfl⟩, ⟨(Nat.le_of_ble_eq_true rfl), (Nat.le_of_ble_eq_true rfl)⟩, ⟨(Nat.le_of_ble_eq_true rfl), (Nat.le_of_ble_eq_true rfl)⟩⟩ rfl rfl (Nat.le_of_ble_eq_true rfl) dX8_firstPlaceOffer_2) (fun E hh n1 hx => ?_) (fun hh n1 hpp => ?_)
  · obtain ⟨hx0, hx1, hx2, hx3⟩ := hx
    rw [if_neg hx0] at hF
    obtain rfl := Option.some.inj hF
    subst hx1
    replace hx2 : hh = h := hx2
    subst hx2
    exact rx_xout C hno (Nat.le_of_ble_eq_true rfl) (Nat.le_of_ble_eq_true rfl) ⟨hx0, rfl, rfl, hx3⟩
  obtain ⟨hz0_y1, hu⟩ := hpp
  cases hu
  rw [if_pos hz0_y1] at hF
  refine rx_aload_n C dX8_firstPlaceOffer_5 0 rfl ?_
  refine rx_getf C f_X8_31 dX8_firstPlaceOffer_6 b_B rfl ?_
  refine rx_aload_n C dX8_firstPlaceOffer_9 0 rfl ?_
  refine rx_getf C f_X8_31 dX8_firstPlaceOffer_10 b_B rfl ?_
  refine rx_getfN C f_X8_155 dX8_firstPlaceOffer_13 b_p.1 rfl ?_
  refine rx_iload_n C dX8_firstPlaceOffer_16 1 rfl ?_
  refine rx_ci (rx_rS C (w_at b_p.2.2.1 (by decide)) Y_X8_at S_X8_at m_X8_136 ⟨⟨rfl, rfl⟩, ⟨(Nat.le_of_ble_eq_true rfl), (Nat.le_of_ble_eq_true rfl)⟩, ⟨(Nat.le_of_ble_eq_true rfl), (Nat.le_of_ble_eq_true rfl)⟩⟩ rfl rfl (Nat.le_of_ble_eq_true rfl) dX8_firstPlaceOffer_17) (fun r hh n1 hpp => ?_)
  obtain ⟨rfl, hu⟩ := hpp
  cases hu
  refine rx_cq (rx_rVN C (w_queueOn b_p.1) Y_X2_queueOn V_X2_queueOn m_X8_229 (Or.inl ⟨_, _, _, _, b_p.1, rfl⟩) ⟨⟨rfl, rfl⟩, ⟨(Nat.le_of_ble_eq_true rfl), (Nat.le_of_ble_eq_true rfl)⟩, ⟨(Nat.le_of_ble_eq_true rfl), (Nat.le_of_ble_eq_true rfl)⟩⟩ rfl rfl (Nat.le_of_ble_eq_true rfl) dX8_firstPlaceOffer_20) (fun r hh n1 hpp => ?_)
  obtain ⟨rfl, hu⟩ := hpp
  cases hu
  by_cases c2 : (rx_at 10 (op.2 5) x1) = (1 : Int32)
  · rw [if_pos c2] at hF ⊢
    show rx_W _ _ _ _ _ _ _ _ _ _ _ _ _ _ _ _ _ _ _ _ (.ref (b + 21 + 13) :: _)
    refine rx_iload_n C dX8_firstPlaceOffer_23 1 rfl ?_
    replace hF := rx_biE hF; obtain ⟨y3, e_y3, hF⟩ := hF
    refine rx_ci (rx_rVN C (w_X3_offerToLead e_y3 b_e) Y_X3_offerToLead V_X3_offerToLead m_X8_259 (Or.inl ⟨_, _, _, _, b_e.1, rfl⟩) ⟨⟨rfl, rfl⟩, ⟨(Nat.le_of_ble_eq_true rfl), (Nat.le_of_ble_eq_true rfl)⟩, ⟨(Nat.le_of_ble_eq_true rfl), (Nat.le_of_ble_eq_true rfl)⟩⟩ rfl rfl (Nat.le_of_ble_eq_true rfl) dX8_firstPlaceOffer_24) (fun r hh n1 hpp => ?_)
    obtain ⟨rfl, hu⟩ := hpp
    cases hu
    obtain rfl := Option.some.inj hF
    exact rx_xret (rx_iret C dX8_firstPlaceOffer_27 (Nat.le_of_ble_eq_true rfl) (Nat.le_of_ble_eq_true rfl) ⟨rfl, rfl, rfl⟩)
  · rw [if_neg c2] at hF ⊢
    show rx_W _ _ _ _ _ _ _ _ _ _ _ _ _ _ _ _ _ _ _ _ (.ref (b + 21 + 10) :: _)
    refine rx_iload_n C dX8_firstPlaceOffer_23 1 rfl ?_
    replace hF := rx_biE hF; obtain ⟨y4, e_y4, hF⟩ := hF
    refine rx_ci (rx_rVN C (w_X3_offerToLead e_y4 b_w) Y_X3_offerToLead V_X3_offerToLead m_X8_259 (Or.inl ⟨_, _, _, _, b_w.1, rfl⟩) ⟨⟨rfl, rfl⟩, ⟨(Nat.le_of_ble_eq_true rfl), (Nat.le_of_ble_eq_true rfl)⟩, ⟨(Nat.le_of_ble_eq_true rfl), (Nat.le_of_ble_eq_true rfl)⟩⟩ rfl rfl (Nat.le_of_ble_eq_true rfl) dX8_firstPlaceOffer_24) (fun r hh n1 hpp => ?_)
    obtain ⟨rfl, hu⟩ := hpp
    cases hu
    obtain rfl := Option.some.inj hF
    exact rx_xret (rx_iret C dX8_firstPlaceOffer_27 (Nat.le_of_ble_eq_true rfl) (Nat.le_of_ble_eq_true rfl) ⟨rfl, rfl, rfl⟩)
def F_X8_turnsUntilCrossing_30 (oB : ob) (os : ob) (op : ob) (ow : ob) (oe : ob) (x1 : Int32) (v3 : Int32) : Nat → ob → ob → ob → Int32 → Option (Int32 × Int32 × ob × ob × ob)
  | 0, _, _, _, _ => none
  | fu + 1, ofp, ofw, ofe, x3 => if (100 : Int32) ≤ x3 then (some ((0 : Int32), (-1 : Int32), ofp, ofw, ofe)) else ((F_X2_offerOf ofp ofw ofe x1).bind fun y7 => if y7 = (-1 : Int32) then (some ((0 : Int32), (-1 : Int32), ofp, ofw, ofe)) else ((F_X2_passTurn ofp ofw ofe os).bind fun y9 => if (rx_at 10 (y9.2.1.2 9) x1) = v3 then (F_X8_turnsUntilCrossing_30 oB os op ow oe x1 v3 fu y9.2.1 y9.2.2.1 y9.2.2.2 ((x3 + 1))) else (some ((0 : Int32), x3, y9.2.1, y9.2.2.1, y9.2.2.2))))
def F_X8_turnsUntilCrossing (oB : ob) (os : ob) (op : ob) (ow : ob) (oe : ob) (ofp : ob) (ofw : ob) (ofe : ob) (x1 : Int32) : Option (Int32 × Int32 × ob × ob × ob) := (F_X8_requirePerson oB os x1).bind fun y1 => if y1 = (0 : Int32) then ((F_X2_copyFrom ofp ofw ofe op ow oe).bind fun y2 => rx_le ((rx_at 10 (y2.1.2 9) x1)) fun v3 => F_X8_turnsUntilCrossing_30 oB os op ow oe x1 v3 100000 y2.1 y2.2.1 y2.2.2 ((0 : Int32))) else (some (y1, (0 : Int32), ofp, ofw, ofe))
set_option maxRecDepth 100000 in
set_option maxHeartbeats 4000000 in
theorem w_X8_turnsUntilCrossing {b : Nat} {oB : ob} {os : ob} {op : ob} {ow : ob} {oe : ob} {ofp : ob} {ofw : ob} {ofe : ob} {x1 : Int32} {y : Int32 × Int32 × ob × ob × ob} (hst : l.stackTraces = false) (hF : F_X8_turnsUntilCrossing oB os op ow oe ofp ofw ofe x1 = some y) (b_B : bB k b oB h) (b_s : bS k (b + 12) os h) (b_p : bP k (b + 21) (b + 12) op h) (b_w : bQ k (b + 21 + 10) ow h) (b_e : bQ k (b + 21 + 13) oe h) (b_fp : bP k (b + 37) (b + 12) ofp h) (b_fw : bQ k (b + 37 + 10) ofw h) (b_fe : bQ k (b + 37 + 13) ofe h) : vx_Met l yX8_turnsUntilCrossing (rx_ws yX8_turnsUntilCrossing cX8_turnsUntilCrossing 4 (some .int)) (rx_rmX 7 103 1 6) (va_Pc [.ref b, .int x1] (rx_G G k h n)) (va_Qi (fun r u => y.1 = 0 ∧ y.2.1 = r ∧ u.2 = n ∧ bP k (b + 37) (b + 12) y.2.2.1 u.1 ∧ bQ k (b + 37 + 10) y.2.2.2.1 u.1 ∧ bQ k (b + 37 + 13) y.2.2.2.2 u.1 ∧ rx_fr [(b + 37, 10), (b + 37 + 10, 3), (b + 37 + 13, 3)] h u.1) (rx_B G k) (rx_A k)) (rx_XC G k (fun E u => ¬ y.1 = 0 ∧ E = rx_ex y.1 ∧ u.1 = h ∧ n ≤ u.2)) 1 6 (rx_A k) := by
  have s_B_fp : b + 1 ≤ b + 37 ∨ b + 37 + 10 ≤ b := by omega
  have s_B_fw : b + 1 ≤ b + 37 + 10 ∨ b + 37 + 10 + 3 ≤ b := by omega
  have s_B_fe : b + 1 ≤ b + 37 + 13 ∨ b + 37 + 13 + 3 ≤ b := by omega
  have s_s_fp : b + 12 + 9 ≤ b + 37 ∨ b + 37 + 10 ≤ b + 12 := by omega
  have s_s_fw : b + 12 + 9 ≤ b + 37 + 10 ∨ b + 37 + 10 + 3 ≤ b + 12 := by omega
  have s_s_fe : b + 12 + 9 ≤ b + 37 + 13 ∨ b + 37 + 13 + 3 ≤ b + 12 := by omega
  have s_p_fp : b + 21 + 10 ≤ b + 37 ∨ b + 37 + 10 ≤ b + 21 := by omega
  have s_p_fw : b + 21 + 10 ≤ b + 37 + 10 ∨ b + 37 + 10 + 3 ≤ b + 21 := by omega
  have s_p_fe : b + 21 + 10 ≤ b + 37 + 13 ∨ b + 37 + 13 + 3 ≤ b + 21 := by omega
  have s_w_fp : b + 21 + 10 + 3 ≤ b + 37 ∨ b + 37 + 10 ≤ b + 21 + 10 := by omega
  have s_w_fw : b + 21 + 10 + 3 ≤ b + 37 + 10 ∨ b + 37 + 10 + 3 ≤ b + 21 + 10 := by omega
  have s_w_fe : b + 21 + 10 + 3 ≤ b + 37 + 13 ∨ b + 37 + 13 + 3 ≤ b + 21 + 10 := by omega
  have s_e_fp : b + 21 + 13 + 3 ≤ b + 37 ∨ b + 37 + 10 ≤ b + 21 + 13 := by omega
  have s_e_fw : b + 21 + 13 + 3 ≤ b + 37 + 10 ∨ b + 37 + 10 + 3 ≤ b + 21 + 13 := by omega
  have s_e_fe : b + 21 + 13 + 3 ≤ b + 37 + 13 ∨ b + 37 + 13 + 3 ≤ b + 21 + 13 := by omega
  refine rx_startX [(0, .ref b), (1, .int x1)] rfl (Nat.le_of_ble_eq_true rfl) (by decide) (fun P9 E9 S9 M9 A9 B9 me9 c9 C hno => ?_)
  unfold F_X8_turnsUntilCrossing at hF
  have fr : rx_fr [(b + 37, 10), (b + 37 + 10, 3), (b + 37 + 13, 3)] h h := rx_fr0
  refine rx_aload_n C dX8_turnsUntilCrossing_0 0 rfl ?_
  refine rx_iload_n C dX8_turnsUntilCrossing_1 1 rfl ?_
  replace hF := rx_biE hF; obtain ⟨y1, e_y1, hF⟩ := hF
  refine rx_xcv (rx_rVX C (w_X8_requirePerson hst e_y1 b_B b_s) Y_X8_requirePerson V_X8_requirePerson m_X8_148 (Or.inl ⟨_, _, _, _, b_B, rfl⟩) ⟨⟨rfl, rfl⟩, ⟨(Nat.le_of_ble_eq_true rfl), (Nat.le_of_ble_eq_true rfl)⟩, ⟨(Nat.le_of_ble_eq_true rfl), (Nat.le_of_ble_eq_true rfl)⟩⟩ rfl rfl (Nat.le_of_ble_eq_true rfl) dX8_turnsUntilCrossing_2) (fun E hh n1 hx => ?_) (fun hh n1 hpp => ?_)
  · obtain ⟨hx0, hx1, hx2, hx3⟩ := hx
    rw [if_neg hx0] at hF
    obtain rfl := Option.some.inj hF
    subst hx1
    replace hx2 : hh = h := hx2
    subst hx2
    exact rx_xout C hno (Nat.le_of_ble_eq_true rfl) (Nat.le_of_ble_eq_true rfl) ⟨hx0, rfl, rfl, hx3⟩
  obtain ⟨hz0_y1, hu⟩ := hpp
  cases hu
  rw [if_pos hz0_y1] at hF
  refine rx_aload_n C dX8_turnsUntilCrossing_5 0 rfl ?_
  refine rx_getf C f_X8_35 dX8_turnsUntilCrossing_6 b_B rfl ?_
  refine rx_aload_n C dX8_turnsUntilCrossing_9 0 rfl ?_
  refine rx_getf C f_X8_31 dX8_turnsUntilCrossing_10 b_B rfl ?_
  replace hF := rx_biE hF; obtain ⟨y2, e_y2, hF⟩ := hF
  refine rx_cv (rx_rVN C (w_X2_copyFrom e_y2 b_fp b_fw b_fe b_p b_w b_e (by omega)) Y_X2_copyFrom V_X2_copyFrom m_X8_262 (Or.inl ⟨_, _, _, _, b_fp.1, rfl⟩) ⟨⟨rfl, rfl⟩, ⟨(Nat.le_of_ble_eq_true rfl), (Nat.le_of_ble_eq_true rfl)⟩, ⟨(Nat.le_of_ble_eq_true rfl), (Nat.le_of_ble_eq_true rfl)⟩⟩ rfl rfl (Nat.le_of_ble_eq_true rfl) dX8_turnsUntilCrossing_13) (fun hh n1 hpp => ?_)
  obtain ⟨hn, c_fp, c_fw, c_fe, ff⟩ := hpp
  replace hn : n = n1 := Eq.symm hn
  subst hn
  replace b_fp : bP k (b + 37) (b + 12) y2.1 hh := c_fp
  clear c_fp
  replace b_fw : bQ k (b + 37 + 10) y2.2.1 hh := c_fw
  clear c_fw
  replace b_fe : bQ k (b + 37 + 13) y2.2.2 hh := c_fe
  clear c_fe
  replace ff : rx_fr [(b + 37, 10), (b + 37 + 10, 3), (b + 37 + 13, 3)] _ hh := ff
  replace b_B := b_B.keep ff ⟨s_B_fp, s_B_fw, s_B_fe, trivial⟩
  replace b_s := b_s.keep ff ⟨s_s_fp, s_s_fw, s_s_fe, trivial⟩
  replace b_p := b_p.keep ff ⟨s_p_fp, s_p_fw, s_p_fe, trivial⟩
  replace b_w := b_w.keep ff ⟨s_w_fp, s_w_fw, s_w_fe, trivial⟩
  replace b_e := b_e.keep ff ⟨s_e_fp, s_e_fw, s_e_fe, trivial⟩
  replace fr := rx_frt fr ff (fun a ha => ⟨ha.1, ha.2.1, ha.2.2.1, trivial⟩)
  refine rx_aload_n C dX8_turnsUntilCrossing_16 0 rfl ?_
  refine rx_getf C f_X8_35 dX8_turnsUntilCrossing_17 b_B rfl ?_
  refine rx_getfN C f_X8_173 dX8_turnsUntilCrossing_20 b_fp.1 rfl ?_
  refine rx_iload_n C dX8_turnsUntilCrossing_23 1 rfl ?_
  refine rx_ci (rx_rS C (w_at b_fp.2.2.2.2.2.2.1 (by decide)) Y_X8_at S_X8_at m_X8_136 ⟨⟨rfl, rfl⟩, ⟨(Nat.le_of_ble_eq_true rfl), (Nat.le_of_ble_eq_true rfl)⟩, ⟨(Nat.le_of_ble_eq_true rfl), (Nat.le_of_ble_eq_true rfl)⟩⟩ rfl rfl (Nat.le_of_ble_eq_true rfl) dX8_turnsUntilCrossing_24) (fun r hh n1 hpp => ?_)
  obtain ⟨rfl, hu⟩ := hpp
  cases hu
  replace hF := rx_leE hF; obtain ⟨v3, e_v3, hF⟩ := hF
  rw [e_v3]
  refine rx_istore_n C dX8_turnsUntilCrossing_27 (by decide) [(2, .int v3), (0, .ref b), (1, .int x1)] rfl ?_
  refine rx_iconst C dX8_turnsUntilCrossing_28 (0 : Int32) (by decide) ?_
  refine rx_istore_n C dX8_turnsUntilCrossing_29 (by decide) [(3, .int ((0 : Int32))), (2, .int v3), (0, .ref b), (1, .int x1)] rfl ?_
  have loop5 : ∀ (fu : Nat) (ofp : ob) (ofw : ob) (ofe : ob) (x3 : Int32) (hh : hp), F_X8_turnsUntilCrossing_30 oB os op ow oe x1 v3 fu ofp ofw ofe x3 = some y → bP k (b + 37) (b + 12) ofp hh → bQ k (b + 37 + 10) ofw hh → bQ k (b + 37 + 13) ofe hh → bB k b oB hh → bS k (b + 12) os hh → bP k (b + 21) (b + 12) op hh → bQ k (b + 21 + 10) ow hh → bQ k (b + 21 + 13) oe hh → rx_fr [(b + 37, 10), (b + 37 + 10, 3), (b + 37 + 13, 3)] h hh → rx_W P9 l E9 (rx_rmX 7 103 1 6) S9 M9 A9 B9 me9 c9 (vx_MQ B9 (va_Qi (fun r u => y.1 = 0 ∧ y.2.1 = r ∧ u.2 = n ∧ bP k (b + 37) (b + 12) y.2.2.1 u.1 ∧ bQ k (b + 37 + 10) y.2.2.2.1 u.1 ∧ bQ k (b + 37 + 13) y.2.2.2.2 u.1 ∧ rx_fr [(b + 37, 10), (b + 37 + 10, 3), (b + 37 + 13, 3)] h u.1) (rx_B G k) (rx_A k)) (rx_XC G k (fun E u => ¬ y.1 = 0 ∧ E = rx_ex y.1 ∧ u.1 = h ∧ n ≤ u.2)) A9 S9 1 6 (rx_A k)) G k 4 1 6 hh n 30 [(0, .ref b), (1, .int x1), (2, .int v3), (3, .int x3)] [] := by
    intro fu
    induction fu with
    | zero => intro ofp ofw ofe x3 hh hF b_fp b_fw b_fe b_B b_s b_p b_w b_e fr; exact absurd hF (by simp [F_X8_turnsUntilCrossing_30])
    | succ fu ih_loop5 =>
      intro ofp ofw ofe x3 hh hF b_fp b_fw b_fe b_B b_s b_p b_w b_e fr
      unfold F_X8_turnsUntilCrossing_30 at hF
      refine rx_iload_n C dX8_turnsUntilCrossing_30 3 rfl ?_
      refine rx_bipush C dX8_turnsUntilCrossing_31 (100 : Int32) (by decide) ?_
      refine rx_icmp_ge C dX8_turnsUntilCrossing_33 79 (by decide) (fun c6 => ?_) (fun c6 => ?_)
      · rw [if_pos c6] at hF
        refine rx_iconst C dX8_turnsUntilCrossing_79 (-1 : Int32) (by decide) ?_
        obtain rfl := Option.some.inj hF
        exact rx_xret (rx_iret C dX8_turnsUntilCrossing_80 (Nat.le_of_ble_eq_true rfl) (Nat.le_of_ble_eq_true rfl) ⟨rfl, rfl, rfl, b_fp, b_fw, b_fe, fr⟩)
      · rw [if_neg c6] at hF
        refine rx_aload_n C dX8_turnsUntilCrossing_36 0 rfl ?_
        refine rx_getf C f_X8_35 dX8_turnsUntilCrossing_37 b_B rfl ?_
        refine rx_iload_n C dX8_turnsUntilCrossing_40 1 rfl ?_
        replace hF := rx_biE hF; obtain ⟨y7, e_y7, hF⟩ := hF
        refine rx_ci (rx_rVN C (w_X2_offerOf e_y7 b_fp b_fw b_fe) Y_X2_offerOf V_X2_offerOf m_X8_241 (Or.inl ⟨_, _, _, _, b_fp.1, rfl⟩) ⟨⟨rfl, rfl⟩, ⟨(Nat.le_of_ble_eq_true rfl), (Nat.le_of_ble_eq_true rfl)⟩, ⟨(Nat.le_of_ble_eq_true rfl), (Nat.le_of_ble_eq_true rfl)⟩⟩ rfl rfl (Nat.le_of_ble_eq_true rfl) dX8_turnsUntilCrossing_41) (fun r hh n1 hpp => ?_)
        obtain ⟨rfl, hu⟩ := hpp
        cases hu
        refine rx_iconst C dX8_turnsUntilCrossing_44 (-1 : Int32) (by decide) ?_
        refine rx_icmp_eq C dX8_turnsUntilCrossing_45 79 (by decide) (fun c8 => ?_) (fun c8 => ?_)
        · rw [if_pos c8] at hF
          refine rx_iconst C dX8_turnsUntilCrossing_79 (-1 : Int32) (by decide) ?_
          obtain rfl := Option.some.inj hF
          exact rx_xret (rx_iret C dX8_turnsUntilCrossing_80 (Nat.le_of_ble_eq_true rfl) (Nat.le_of_ble_eq_true rfl) ⟨rfl, rfl, rfl, b_fp, b_fw, b_fe, fr⟩)
        · rw [if_neg c8] at hF
          refine rx_aload_n C dX8_turnsUntilCrossing_48 0 rfl ?_
          refine rx_getf C f_X8_35 dX8_turnsUntilCrossing_49 b_B rfl ?_
          replace hF := rx_biE hF; obtain ⟨y9, e_y9, hF⟩ := hF
          refine rx_ci (rx_rVN C (w_X2_passTurn e_y9 b_fp b_fw b_fe b_s (by omega)) Y_X2_passTurn V_X2_passTurn m_X8_265 (Or.inl ⟨_, _, _, _, b_fp.1, rfl⟩) ⟨⟨rfl, rfl⟩, ⟨(Nat.le_of_ble_eq_true rfl), (Nat.le_of_ble_eq_true rfl)⟩, ⟨(Nat.le_of_ble_eq_true rfl), (Nat.le_of_ble_eq_true rfl)⟩⟩ rfl rfl (Nat.le_of_ble_eq_true rfl) dX8_turnsUntilCrossing_52) (fun r hh n1 hpp => ?_)
          obtain ⟨rfl, hn, c_fp, c_fw, c_fe, ff⟩ := hpp
          replace hn : n = n1 := Eq.symm hn
          subst hn
          replace b_fp : bP k (b + 37) (b + 12) y9.2.1 hh := c_fp
          clear c_fp
          replace b_fw : bQ k (b + 37 + 10) y9.2.2.1 hh := c_fw
          clear c_fw
          replace b_fe : bQ k (b + 37 + 13) y9.2.2.2 hh := c_fe
          clear c_fe
          replace ff : rx_fr [(b + 37, 10), (b + 37 + 10, 3), (b + 37 + 13, 3)] _ hh := ff
          replace b_B := b_B.keep ff ⟨s_B_fp, s_B_fw, s_B_fe, trivial⟩
          replace b_s := b_s.keep ff ⟨s_s_fp, s_s_fw, s_s_fe, trivial⟩
          replace b_p := b_p.keep ff ⟨s_p_fp, s_p_fw, s_p_fe, trivial⟩
          replace b_w := b_w.keep ff ⟨s_w_fp, s_w_fw, s_w_fe, trivial⟩
          replace b_e := b_e.keep ff ⟨s_e_fp, s_e_fw, s_e_fe, trivial⟩
          replace fr := rx_frt fr ff (fun a ha => ⟨ha.1, ha.2.1, ha.2.2.1, trivial⟩)
          refine rx_pop C dX8_turnsUntilCrossing_55 rfl ?_
          refine rx_aload_n C dX8_turnsUntilCrossing_56 0 rfl ?_
          refine rx_getf C f_X8_35 dX8_turnsUntilCrossing_57 b_B rfl ?_
          refine rx_getfN C f_X8_173 dX8_turnsUntilCrossing_60 b_fp.1 rfl ?_
          refine rx_iload_n C dX8_turnsUntilCrossing_63 1 rfl ?_
          refine rx_ci (rx_rS C (w_at b_fp.2.2.2.2.2.2.1 (by decide)) Y_X8_at S_X8_at m_X8_136 ⟨⟨rfl, rfl⟩, ⟨(Nat.le_of_ble_eq_true rfl), (Nat.le_of_ble_eq_true rfl)⟩, ⟨(Nat.le_of_ble_eq_true rfl), (Nat.le_of_ble_eq_true rfl)⟩⟩ rfl rfl (Nat.le_of_ble_eq_true rfl) dX8_turnsUntilCrossing_64) (fun r hh n1 hpp => ?_)
          obtain ⟨rfl, hu⟩ := hpp
          cases hu
          refine rx_iload_n C dX8_turnsUntilCrossing_67 2 rfl ?_
          refine rx_icmp_eq C dX8_turnsUntilCrossing_68 73 (by decide) (fun c10 => ?_) (fun c10 => ?_)
          · rw [if_pos c10] at hF
            refine rx_iinc C dX8_turnsUntilCrossing_73 3 rfl (x3 + 1) rfl (by decide) [(3, .int ((x3 + 1))), (0, .ref b), (1, .int x1), (2, .int v3)] rfl ?_
            refine rx_goto C dX8_turnsUntilCrossing_76 30 (by decide) ?_
            refine rx_sub [1, 2, 3, 0] rfl ?_
            exact ih_loop5 _ _ _ _ _ hF b_fp b_fw b_fe b_B b_s b_p b_w b_e fr
          · rw [if_neg c10] at hF
            refine rx_iload_n C dX8_turnsUntilCrossing_71 3 rfl ?_
            obtain rfl := Option.some.inj hF
            exact rx_xret (rx_iret C dX8_turnsUntilCrossing_72 (Nat.le_of_ble_eq_true rfl) (Nat.le_of_ble_eq_true rfl) ⟨rfl, rfl, rfl, b_fp, b_fw, b_fe, fr⟩)
  refine rx_sub [2, 3, 1, 0] rfl ?_
  exact loop5 _ _ _ _ _ _ hF b_fp b_fw b_fe b_B b_s b_p b_w b_e fr
def F_X8_foresee (oB : ob) (os : ob) (op : ob) (ow : ob) (oe : ob) (ofp : ob) (ofw : ob) (ofe : ob) (x1 : Int32) : Option (Int32 × ob × ob × ob) := if x1 < (0 : Int32) then (some ((2 : Int32), ofp, ofw, ofe)) else (if x1 ≤ (100 : Int32) then ((F_X2_copyFrom ofp ofw ofe op ow oe).bind fun y3 => (F_X2_passSeveral y3.1 y3.2.1 y3.2.2 os x1).bind fun y4 => some ((0 : Int32), y4.2.1, y4.2.2.1, y4.2.2.2)) else (some ((2 : Int32), ofp, ofw, ofe)))
set_option maxRecDepth 100000 in
set_option maxHeartbeats 4000000 in
theorem w_X8_foresee {b : Nat} {oB : ob} {os : ob} {op : ob} {ow : ob} {oe : ob} {ofp : ob} {ofw : ob} {ofe : ob} {x1 : Int32} {y : Int32 × ob × ob × ob} (hst : l.stackTraces = false) (hF : F_X8_foresee oB os op ow oe ofp ofw ofe x1 = some y) (b_B : bB k b oB h) (b_s : bS k (b + 12) os h) (b_p : bP k (b + 21) (b + 12) op h) (b_w : bQ k (b + 21 + 10) ow h) (b_e : bQ k (b + 21 + 13) oe h) (b_fp : bP k (b + 37) (b + 12) ofp h) (b_fw : bQ k (b + 37 + 10) ofw h) (b_fe : bQ k (b + 37 + 13) ofe h) : vx_Met l yX8_foresee (rx_ws yX8_foresee cX8_foresee 2 none) (rx_rmX 6 117 1 6) (va_Pc [.ref b, .int x1] (rx_G G k h n)) (va_Qv (fun u => y.1 = 0 ∧ u.2 = n ∧ bP k (b + 37) (b + 12) y.2.1 u.1 ∧ bQ k (b + 37 + 10) y.2.2.1 u.1 ∧ bQ k (b + 37 + 13) y.2.2.2 u.1 ∧ rx_fr [(b + 37, 10), (b + 37 + 10, 3), (b + 37 + 13, 3)] h u.1) (rx_B G k) (rx_A k)) (rx_XC G k (fun E u => ¬ y.1 = 0 ∧ E = rx_ex y.1 ∧ u.1 = h ∧ n ≤ u.2)) 1 6 (rx_A k) := by
  have s_B_fp : b + 1 ≤ b + 37 ∨ b + 37 + 10 ≤ b := by omega
  have s_B_fw : b + 1 ≤ b + 37 + 10 ∨ b + 37 + 10 + 3 ≤ b := by omega
  have s_B_fe : b + 1 ≤ b + 37 + 13 ∨ b + 37 + 13 + 3 ≤ b := by omega
  have s_s_fp : b + 12 + 9 ≤ b + 37 ∨ b + 37 + 10 ≤ b + 12 := by omega
  have s_s_fw : b + 12 + 9 ≤ b + 37 + 10 ∨ b + 37 + 10 + 3 ≤ b + 12 := by omega
  have s_s_fe : b + 12 + 9 ≤ b + 37 + 13 ∨ b + 37 + 13 + 3 ≤ b + 12 := by omega
  have s_p_fp : b + 21 + 10 ≤ b + 37 ∨ b + 37 + 10 ≤ b + 21 := by omega
  have s_p_fw : b + 21 + 10 ≤ b + 37 + 10 ∨ b + 37 + 10 + 3 ≤ b + 21 := by omega
  have s_p_fe : b + 21 + 10 ≤ b + 37 + 13 ∨ b + 37 + 13 + 3 ≤ b + 21 := by omega
  have s_w_fp : b + 21 + 10 + 3 ≤ b + 37 ∨ b + 37 + 10 ≤ b + 21 + 10 := by omega
  have s_w_fw : b + 21 + 10 + 3 ≤ b + 37 + 10 ∨ b + 37 + 10 + 3 ≤ b + 21 + 10 := by omega
  have s_w_fe : b + 21 + 10 + 3 ≤ b + 37 + 13 ∨ b + 37 + 13 + 3 ≤ b + 21 + 10 := by omega
  have s_e_fp : b + 21 + 13 + 3 ≤ b + 37 ∨ b + 37 + 10 ≤ b + 21 + 13 := by omega
  have s_e_fw : b + 21 + 13 + 3 ≤ b + 37 + 10 ∨ b + 37 + 10 + 3 ≤ b + 21 + 13 := by omega
  have s_e_fe : b + 21 + 13 + 3 ≤ b + 37 + 13 ∨ b + 37 + 13 + 3 ≤ b + 21 + 13 := by omega
  refine rx_startX [(0, .ref b), (1, .int x1)] rfl (Nat.le_of_ble_eq_true rfl) (by decide) (fun P9 E9 S9 M9 A9 B9 me9 c9 C hno => ?_)
  unfold F_X8_foresee at hF
  have fr : rx_fr [(b + 37, 10), (b + 37 + 10, 3), (b + 37 + 13, 3)] h h := rx_fr0
  refine rx_iload_n C dX8_foresee_0 1 rfl ?_
  refine rx_if_lt C dX8_foresee_1 10 (by decide) (fun c1 => ?_) (fun c1 => ?_)
  · rw [if_pos c1] at hF
    obtain rfl := Option.some.inj hF
    exact rx_throwW (t := 11) C hst XW_179_183 (List.mem_of_getElem? (i := 11) rfl) hno dX8_foresee_10 dX8_foresee_13 dX8_foresee_14 dX8_foresee_17 dX8_foresee_20 (Nat.le_of_ble_eq_true rfl) (Nat.le_of_ble_eq_true rfl) (Nat.le_of_ble_eq_true rfl) (Nat.le_of_ble_eq_true rfl) (Nat.le_of_ble_eq_true rfl) (Nat.le_of_ble_eq_true rfl) (fun n1 hn1 => ⟨(show ¬ (2 : Int32) = 0 by decide), rfl, rfl, hn1⟩)
  · rw [if_neg c1] at hF
    refine rx_iload_n C dX8_foresee_4 1 rfl ?_
    refine rx_bipush C dX8_foresee_5 (100 : Int32) (by decide) ?_
    refine rx_icmp_le C dX8_foresee_7 21 (by decide) (fun c2 => ?_) (fun c2 => ?_)
    · rw [if_pos c2] at hF
      refine rx_aload_n C dX8_foresee_21 0 rfl ?_
      refine rx_getf C f_X8_35 dX8_foresee_22 b_B rfl ?_
      refine rx_aload_n C dX8_foresee_25 0 rfl ?_
      refine rx_getf C f_X8_31 dX8_foresee_26 b_B rfl ?_
      replace hF := rx_biE hF; obtain ⟨y3, e_y3, hF⟩ := hF
      refine rx_cv (rx_rVN C (w_X2_copyFrom e_y3 b_fp b_fw b_fe b_p b_w b_e (by omega)) Y_X2_copyFrom V_X2_copyFrom m_X8_262 (Or.inl ⟨_, _, _, _, b_fp.1, rfl⟩) ⟨⟨rfl, rfl⟩, ⟨(Nat.le_of_ble_eq_true rfl), (Nat.le_of_ble_eq_true rfl)⟩, ⟨(Nat.le_of_ble_eq_true rfl), (Nat.le_of_ble_eq_true rfl)⟩⟩ rfl rfl (Nat.le_of_ble_eq_true rfl) dX8_foresee_29) (fun hh n1 hpp => ?_)
      obtain ⟨hn, c_fp, c_fw, c_fe, ff⟩ := hpp
      replace hn : n = n1 := Eq.symm hn
      subst hn
      replace b_fp : bP k (b + 37) (b + 12) y3.1 hh := c_fp
      clear c_fp
      replace b_fw : bQ k (b + 37 + 10) y3.2.1 hh := c_fw
      clear c_fw
      replace b_fe : bQ k (b + 37 + 13) y3.2.2 hh := c_fe
      clear c_fe
      replace ff : rx_fr [(b + 37, 10), (b + 37 + 10, 3), (b + 37 + 13, 3)] _ hh := ff
      replace b_B := b_B.keep ff ⟨s_B_fp, s_B_fw, s_B_fe, trivial⟩
      replace b_s := b_s.keep ff ⟨s_s_fp, s_s_fw, s_s_fe, trivial⟩
      replace b_p := b_p.keep ff ⟨s_p_fp, s_p_fw, s_p_fe, trivial⟩
      replace b_w := b_w.keep ff ⟨s_w_fp, s_w_fw, s_w_fe, trivial⟩
      replace b_e := b_e.keep ff ⟨s_e_fp, s_e_fw, s_e_fe, trivial⟩
      replace fr := rx_frt fr ff (fun a ha => ⟨ha.1, ha.2.1, ha.2.2.1, trivial⟩)
      refine rx_aload_n C dX8_foresee_32 0 rfl ?_
      refine rx_getf C f_X8_35 dX8_foresee_33 b_B rfl ?_
      refine rx_iload_n C dX8_foresee_36 1 rfl ?_
      replace hF := rx_biE hF; obtain ⟨y4, e_y4, hF⟩ := hF
      refine rx_ci (rx_rVN C (w_X2_passSeveral e_y4 b_fp b_fw b_fe b_s (by omega)) Y_X2_passSeveral V_X2_passSeveral m_X8_344 (Or.inl ⟨_, _, _, _, b_fp.1, rfl⟩) ⟨⟨rfl, rfl⟩, ⟨(Nat.le_of_ble_eq_true rfl), (Nat.le_of_ble_eq_true rfl)⟩, ⟨(Nat.le_of_ble_eq_true rfl), (Nat.le_of_ble_eq_true rfl)⟩⟩ rfl rfl (Nat.le_of_ble_eq_true rfl) dX8_foresee_37) (fun r hh n1 hpp => ?_)
      obtain ⟨rfl, hn, c_fp, c_fw, c_fe, ff⟩ := hpp
      replace hn : n = n1 := Eq.symm hn
      subst hn
      replace b_fp : bP k (b + 37) (b + 12) y4.2.1 hh := c_fp
      clear c_fp
      replace b_fw : bQ k (b + 37 + 10) y4.2.2.1 hh := c_fw
      clear c_fw
      replace b_fe : bQ k (b + 37 + 13) y4.2.2.2 hh := c_fe
      clear c_fe
      replace ff : rx_fr [(b + 37, 10), (b + 37 + 10, 3), (b + 37 + 13, 3)] _ hh := ff
      replace b_B := b_B.keep ff ⟨s_B_fp, s_B_fw, s_B_fe, trivial⟩
      replace b_s := b_s.keep ff ⟨s_s_fp, s_s_fw, s_s_fe, trivial⟩
      replace b_p := b_p.keep ff ⟨s_p_fp, s_p_fw, s_p_fe, trivial⟩
      replace b_w := b_w.keep ff ⟨s_w_fp, s_w_fw, s_w_fe, trivial⟩
      replace b_e := b_e.keep ff ⟨s_e_fp, s_e_fw, s_e_fe, trivial⟩
      replace fr := rx_frt fr ff (fun a ha => ⟨ha.1, ha.2.1, ha.2.2.1, trivial⟩)
      refine rx_pop C dX8_foresee_40 rfl ?_
      obtain rfl := Option.some.inj hF
      exact rx_xret (rx_vret C dX8_foresee_41 (Nat.le_of_ble_eq_true rfl) (Nat.le_of_ble_eq_true rfl) ⟨rfl, rfl, b_fp, b_fw, b_fe, fr⟩)
    · rw [if_neg c2] at hF
      obtain rfl := Option.some.inj hF
      exact rx_throwW (t := 11) C hst XW_179_183 (List.mem_of_getElem? (i := 11) rfl) hno dX8_foresee_10 dX8_foresee_13 dX8_foresee_14 dX8_foresee_17 dX8_foresee_20 (Nat.le_of_ble_eq_true rfl) (Nat.le_of_ble_eq_true rfl) (Nat.le_of_ble_eq_true rfl) (Nat.le_of_ble_eq_true rfl) (Nat.le_of_ble_eq_true rfl) (Nat.le_of_ble_eq_true rfl) (fun n1 hn1 => ⟨(show ¬ (2 : Int32) = 0 by decide), rfl, rfl, hn1⟩)
def F_X8_tollBoxAfter (oB : ob) (os : ob) (op : ob) (ow : ob) (oe : ob) (ofp : ob) (ofw : ob) (ofe : ob) (x1 : Int32) : Option (Int32 × Int32 × ob × ob × ob) := (F_X8_foresee oB os op ow oe ofp ofw ofe x1).bind fun y1 => if y1.1 = (0 : Int32) then (some ((0 : Int32), (y1.2.1.1 3), y1.2.1, y1.2.2.1, y1.2.2.2)) else (some (y1.1, (0 : Int32), ofp, ofw, ofe))
set_option maxRecDepth 100000 in
set_option maxHeartbeats 4000000 in
theorem w_X8_tollBoxAfter {b : Nat} {oB : ob} {os : ob} {op : ob} {ow : ob} {oe : ob} {ofp : ob} {ofw : ob} {ofe : ob} {x1 : Int32} {y : Int32 × Int32 × ob × ob × ob} (hst : l.stackTraces = false) (hF : F_X8_tollBoxAfter oB os op ow oe ofp ofw ofe x1 = some y) (b_B : bB k b oB h) (b_s : bS k (b + 12) os h) (b_p : bP k (b + 21) (b + 12) op h) (b_w : bQ k (b + 21 + 10) ow h) (b_e : bQ k (b + 21 + 13) oe h) (b_fp : bP k (b + 37) (b + 12) ofp h) (b_fw : bQ k (b + 37 + 10) ofw h) (b_fe : bQ k (b + 37 + 13) ofe h) : vx_Met l yX8_tollBoxAfter (rx_ws yX8_tollBoxAfter cX8_tollBoxAfter 2 (some .int)) (rx_rmX 7 138 1 6) (va_Pc [.ref b, .int x1] (rx_G G k h n)) (va_Qi (fun r u => y.1 = 0 ∧ y.2.1 = r ∧ u.2 = n ∧ bP k (b + 37) (b + 12) y.2.2.1 u.1 ∧ bQ k (b + 37 + 10) y.2.2.2.1 u.1 ∧ bQ k (b + 37 + 13) y.2.2.2.2 u.1 ∧ rx_fr [(b + 37, 10), (b + 37 + 10, 3), (b + 37 + 13, 3)] h u.1) (rx_B G k) (rx_A k)) (rx_XC G k (fun E u => ¬ y.1 = 0 ∧ E = rx_ex y.1 ∧ u.1 = h ∧ n ≤ u.2)) 1 6 (rx_A k) := by
  have s_B_fp : b + 1 ≤ b + 37 ∨ b + 37 + 10 ≤ b := by omega
  have s_B_fw : b + 1 ≤ b + 37 + 10 ∨ b + 37 + 10 + 3 ≤ b := by omega
  have s_B_fe : b + 1 ≤ b + 37 + 13 ∨ b + 37 + 13 + 3 ≤ b := by omega
  have s_s_fp : b + 12 + 9 ≤ b + 37 ∨ b + 37 + 10 ≤ b + 12 := by omega
  have s_s_fw : b + 12 + 9 ≤ b + 37 + 10 ∨ b + 37 + 10 + 3 ≤ b + 12 := by omega
  have s_s_fe : b + 12 + 9 ≤ b + 37 + 13 ∨ b + 37 + 13 + 3 ≤ b + 12 := by omega
  have s_p_fp : b + 21 + 10 ≤ b + 37 ∨ b + 37 + 10 ≤ b + 21 := by omega
  have s_p_fw : b + 21 + 10 ≤ b + 37 + 10 ∨ b + 37 + 10 + 3 ≤ b + 21 := by omega
  have s_p_fe : b + 21 + 10 ≤ b + 37 + 13 ∨ b + 37 + 13 + 3 ≤ b + 21 := by omega
  have s_w_fp : b + 21 + 10 + 3 ≤ b + 37 ∨ b + 37 + 10 ≤ b + 21 + 10 := by omega
  have s_w_fw : b + 21 + 10 + 3 ≤ b + 37 + 10 ∨ b + 37 + 10 + 3 ≤ b + 21 + 10 := by omega
  have s_w_fe : b + 21 + 10 + 3 ≤ b + 37 + 13 ∨ b + 37 + 13 + 3 ≤ b + 21 + 10 := by omega
  have s_e_fp : b + 21 + 13 + 3 ≤ b + 37 ∨ b + 37 + 10 ≤ b + 21 + 13 := by omega
  have s_e_fw : b + 21 + 13 + 3 ≤ b + 37 + 10 ∨ b + 37 + 10 + 3 ≤ b + 21 + 13 := by omega
  have s_e_fe : b + 21 + 13 + 3 ≤ b + 37 + 13 ∨ b + 37 + 13 + 3 ≤ b + 21 + 13 := by omega
  refine rx_startX [(0, .ref b), (1, .int x1)] rfl (Nat.le_of_ble_eq_true rfl) (by decide) (fun P9 E9 S9 M9 A9 B9 me9 c9 C hno => ?_)
  unfold F_X8_tollBoxAfter at hF
  have fr : rx_fr [(b + 37, 10), (b + 37 + 10, 3), (b + 37 + 13, 3)] h h := rx_fr0
  refine rx_aload_n C dX8_tollBoxAfter_0 0 rfl ?_
  refine rx_iload_n C dX8_tollBoxAfter_1 1 rfl ?_
  replace hF := rx_biE hF; obtain ⟨y1, e_y1, hF⟩ := hF
  refine rx_xcv (rx_rVX C (w_X8_foresee hst e_y1 b_B b_s b_p b_w b_e b_fp b_fw b_fe) Y_X8_foresee V_X8_foresee m_X8_268 (Or.inl ⟨_, _, _, _, b_B, rfl⟩) ⟨⟨rfl, rfl⟩, ⟨(Nat.le_of_ble_eq_true rfl), (Nat.le_of_ble_eq_true rfl)⟩, ⟨(Nat.le_of_ble_eq_true rfl), (Nat.le_of_ble_eq_true rfl)⟩⟩ rfl rfl (Nat.le_of_ble_eq_true rfl) dX8_tollBoxAfter_2) (fun E hh n1 hx => ?_) (fun hh n1 hpp => ?_)
  · obtain ⟨hx0, hx1, hx2, hx3⟩ := hx
    rw [if_neg hx0] at hF
    obtain rfl := Option.some.inj hF
    subst hx1
    replace hx2 : hh = h := hx2
    subst hx2
    exact rx_xout C hno (Nat.le_of_ble_eq_true rfl) (Nat.le_of_ble_eq_true rfl) ⟨hx0, rfl, rfl, hx3⟩
  obtain ⟨hz0_y1, hn, c_fp, c_fw, c_fe, ff⟩ := hpp
  replace hn : n = n1 := Eq.symm hn
  subst hn
  replace b_fp : bP k (b + 37) (b + 12) y1.2.1 hh := c_fp
  clear c_fp
  replace b_fw : bQ k (b + 37 + 10) y1.2.2.1 hh := c_fw
  clear c_fw
  replace b_fe : bQ k (b + 37 + 13) y1.2.2.2 hh := c_fe
  clear c_fe
  replace ff : rx_fr [(b + 37, 10), (b + 37 + 10, 3), (b + 37 + 13, 3)] _ hh := ff
  replace b_B := b_B.keep ff ⟨s_B_fp, s_B_fw, s_B_fe, trivial⟩
  replace b_s := b_s.keep ff ⟨s_s_fp, s_s_fw, s_s_fe, trivial⟩
  replace b_p := b_p.keep ff ⟨s_p_fp, s_p_fw, s_p_fe, trivial⟩
  replace b_w := b_w.keep ff ⟨s_w_fp, s_w_fw, s_w_fe, trivial⟩
  replace b_e := b_e.keep ff ⟨s_e_fp, s_e_fw, s_e_fe, trivial⟩
  replace fr := rx_frt fr ff (fun a ha => ⟨ha.1, ha.2.1, ha.2.2.1, trivial⟩)
  rw [if_pos hz0_y1] at hF
  refine rx_aload_n C dX8_tollBoxAfter_5 0 rfl ?_
  refine rx_getf C f_X8_35 dX8_tollBoxAfter_6 b_B rfl ?_
  refine rx_getfN C f_X8_126 dX8_tollBoxAfter_9 b_fp.1 rfl ?_
  obtain rfl := Option.some.inj hF
  exact rx_xret (rx_iret C dX8_tollBoxAfter_12 (Nat.le_of_ble_eq_true rfl) (Nat.le_of_ble_eq_true rfl) ⟨rfl, rfl, rfl, b_fp, b_fw, b_fe, fr⟩)
def F_X8_limitAngleAfter (oB : ob) (os : ob) (op : ob) (ow : ob) (oe : ob) (ofp : ob) (ofw : ob) (ofe : ob) (x1 : Int32) : Option (Int32 × Int32 × ob × ob × ob) := (F_X8_foresee oB os op ow oe ofp ofw ofe x1).bind fun y1 => if y1.1 = (0 : Int32) then (some ((0 : Int32), (y1.2.1.1 2), y1.2.1, y1.2.2.1, y1.2.2.2)) else (some (y1.1, (0 : Int32), ofp, ofw, ofe))
set_option maxRecDepth 100000 in
set_option maxHeartbeats 4000000 in
theorem w_X8_limitAngleAfter {b : Nat} {oB : ob} {os : ob} {op : ob} {ow : ob} {oe : ob} {ofp : ob} {ofw : ob} {ofe : ob} {x1 : Int32} {y : Int32 × Int32 × ob × ob × ob} (hst : l.stackTraces = false) (hF : F_X8_limitAngleAfter oB os op ow oe ofp ofw ofe x1 = some y) (b_B : bB k b oB h) (b_s : bS k (b + 12) os h) (b_p : bP k (b + 21) (b + 12) op h) (b_w : bQ k (b + 21 + 10) ow h) (b_e : bQ k (b + 21 + 13) oe h) (b_fp : bP k (b + 37) (b + 12) ofp h) (b_fw : bQ k (b + 37 + 10) ofw h) (b_fe : bQ k (b + 37 + 13) ofe h) : vx_Met l yX8_limitAngleAfter (rx_ws yX8_limitAngleAfter cX8_limitAngleAfter 2 (some .int)) (rx_rmX 7 138 1 6) (va_Pc [.ref b, .int x1] (rx_G G k h n)) (va_Qi (fun r u => y.1 = 0 ∧ y.2.1 = r ∧ u.2 = n ∧ bP k (b + 37) (b + 12) y.2.2.1 u.1 ∧ bQ k (b + 37 + 10) y.2.2.2.1 u.1 ∧ bQ k (b + 37 + 13) y.2.2.2.2 u.1 ∧ rx_fr [(b + 37, 10), (b + 37 + 10, 3), (b + 37 + 13, 3)] h u.1) (rx_B G k) (rx_A k)) (rx_XC G k (fun E u => ¬ y.1 = 0 ∧ E = rx_ex y.1 ∧ u.1 = h ∧ n ≤ u.2)) 1 6 (rx_A k) := by
  have s_B_fp : b + 1 ≤ b + 37 ∨ b + 37 + 10 ≤ b := by omega
  have s_B_fw : b + 1 ≤ b + 37 + 10 ∨ b + 37 + 10 + 3 ≤ b := by omega
  have s_B_fe : b + 1 ≤ b + 37 + 13 ∨ b + 37 + 13 + 3 ≤ b := by omega
  have s_s_fp : b + 12 + 9 ≤ b + 37 ∨ b + 37 + 10 ≤ b + 12 := by omega
  have s_s_fw : b + 12 + 9 ≤ b + 37 + 10 ∨ b + 37 + 10 + 3 ≤ b + 12 := by omega
  have s_s_fe : b + 12 + 9 ≤ b + 37 + 13 ∨ b + 37 + 13 + 3 ≤ b + 12 := by omega
  have s_p_fp : b + 21 + 10 ≤ b + 37 ∨ b + 37 + 10 ≤ b + 21 := by omega
  have s_p_fw : b + 21 + 10 ≤ b + 37 + 10 ∨ b + 37 + 10 + 3 ≤ b + 21 := by omega
  have s_p_fe : b + 21 + 10 ≤ b + 37 + 13 ∨ b + 37 + 13 + 3 ≤ b + 21 := by omega
  have s_w_fp : b + 21 + 10 + 3 ≤ b + 37 ∨ b + 37 + 10 ≤ b + 21 + 10 := by omega
  have s_w_fw : b + 21 + 10 + 3 ≤ b + 37 + 10 ∨ b + 37 + 10 + 3 ≤ b + 21 + 10 := by omega
  have s_w_fe : b + 21 + 10 + 3 ≤ b + 37 + 13 ∨ b + 37 + 13 + 3 ≤ b + 21 + 10 := by omega
  have s_e_fp : b + 21 + 13 + 3 ≤ b + 37 ∨ b + 37 + 10 ≤ b + 21 + 13 := by omega
  have s_e_fw : b + 21 + 13 + 3 ≤ b + 37 + 10 ∨ b + 37 + 10 + 3 ≤ b + 21 + 13 := by omega
  have s_e_fe : b + 21 + 13 + 3 ≤ b + 37 + 13 ∨ b + 37 + 13 + 3 ≤ b + 21 + 13 := by omega
  refine rx_startX [(0, .ref b), (1, .int x1)] rfl (Nat.le_of_ble_eq_true rfl) (by decide) (fun P9 E9 S9 M9 A9 B9 me9 c9 C hno => ?_)
  unfold F_X8_limitAngleAfter at hF
  have fr : rx_fr [(b + 37, 10), (b + 37 + 10, 3), (b + 37 + 13, 3)] h h := rx_fr0
  refine rx_aload_n C dX8_limitAngleAfter_0 0 rfl ?_
  refine rx_iload_n C dX8_limitAngleAfter_1 1 rfl ?_
  replace hF := rx_biE hF; obtain ⟨y1, e_y1, hF⟩ := hF
  refine rx_xcv (rx_rVX C (w_X8_foresee hst e_y1 b_B b_s b_p b_w b_e b_fp b_fw b_fe) Y_X8_foresee V_X8_foresee m_X8_268 (Or.inl ⟨_, _, _, _, b_B, rfl⟩) ⟨⟨rfl, rfl⟩, ⟨(Nat.le_of_ble_eq_true rfl), (Nat.le_of_ble_eq_true rfl)⟩, ⟨(Nat.le_of_ble_eq_true rfl), (Nat.le_of_ble_eq_true rfl)⟩⟩ rfl rfl (Nat.le_of_ble_eq_true rfl) dX8_limitAngleAfter_2) (fun E hh n1 hx => ?_) (fun hh n1 hpp => ?_)
  · obtain ⟨hx0, hx1, hx2, hx3⟩ := hx
    rw [if_neg hx0] at hF
    obtain rfl := Option.some.inj hF
    subst hx1
    replace hx2 : hh = h := hx2
    subst hx2
    exact rx_xout C hno (Nat.le_of_ble_eq_true rfl) (Nat.le_of_ble_eq_true rfl) ⟨hx0, rfl, rfl, hx3⟩
  obtain ⟨hz0_y1, hn, c_fp, c_fw, c_fe, ff⟩ := hpp
  replace hn : n = n1 := Eq.symm hn
  subst hn
  replace b_fp : bP k (b + 37) (b + 12) y1.2.1 hh := c_fp
  clear c_fp
  replace b_fw : bQ k (b + 37 + 10) y1.2.2.1 hh := c_fw
  clear c_fw
  replace b_fe : bQ k (b + 37 + 13) y1.2.2.2 hh := c_fe
  clear c_fe
  replace ff : rx_fr [(b + 37, 10), (b + 37 + 10, 3), (b + 37 + 13, 3)] _ hh := ff
  replace b_B := b_B.keep ff ⟨s_B_fp, s_B_fw, s_B_fe, trivial⟩
  replace b_s := b_s.keep ff ⟨s_s_fp, s_s_fw, s_s_fe, trivial⟩
  replace b_p := b_p.keep ff ⟨s_p_fp, s_p_fw, s_p_fe, trivial⟩
  replace b_w := b_w.keep ff ⟨s_w_fp, s_w_fw, s_w_fe, trivial⟩
  replace b_e := b_e.keep ff ⟨s_e_fp, s_e_fw, s_e_fe, trivial⟩
  replace fr := rx_frt fr ff (fun a ha => ⟨ha.1, ha.2.1, ha.2.2.1, trivial⟩)
  rw [if_pos hz0_y1] at hF
  refine rx_aload_n C dX8_limitAngleAfter_5 0 rfl ?_
  refine rx_getf C f_X8_35 dX8_limitAngleAfter_6 b_B rfl ?_
  refine rx_getfN C f_X8_123 dX8_limitAngleAfter_9 b_fp.1 rfl ?_
  obtain rfl := Option.some.inj hF
  exact rx_xret (rx_iret C dX8_limitAngleAfter_12 (Nat.le_of_ble_eq_true rfl) (Nat.le_of_ble_eq_true rfl) ⟨rfl, rfl, rfl, b_fp, b_fw, b_fe, fr⟩)
def F_X8_crossingObstacle (oB : ob) (os : ob) (op : ob) (ow : ob) (oe : ob) (x1 : Int32) : Option (Int32 × Int32) := (F_X8_requirePerson oB os x1).bind fun y1 => if y1 = (0 : Int32) then (if (op.1 1) ≤ (9999 : Int32) then ((F_X2_departureBank op).bind fun y3 => if (rx_at 10 (op.2 5) x1) = y3 then ((F_X5_roomIn os ((op.1 1))).bind fun y5 => if y5 = (0 : Int32) then (some ((0 : Int32), (3 : Int32))) else ((F_X2_tollNow op os x1).bind fun y7 => (F_X2_offerOf op ow oe x1).bind fun y8 => rx_le (if (0 : Int32) < y8 then y8 else (0 : Int32)) fun v9 => rx_le ((y7 + v9)) fun v10 => if v10 ≤ (rx_at 10 (op.2 6) x1) then (some ((0 : Int32), (0 : Int32))) else (some ((0 : Int32), (4 : Int32))))) else (some ((0 : Int32), (2 : Int32)))) else (some ((0 : Int32), (1 : Int32)))) else (some (y1, (0 : Int32)))
set_option maxRecDepth 100000 in
set_option maxHeartbeats 4000000 in
theorem w_X8_crossingObstacle {b : Nat} {oB : ob} {os : ob} {op : ob} {ow : ob} {oe : ob} {x1 : Int32} {y : Int32 × Int32} (hst : l.stackTraces = false) (hF : F_X8_crossingObstacle oB os op ow oe x1 = some y) (b_B : bB k b oB h) (b_s : bS k (b + 12) os h) (b_p : bP k (b + 21) (b + 12) op h) (b_w : bQ k (b + 21 + 10) ow h) (b_e : bQ k (b + 21 + 13) oe h) : vx_Met l yX8_crossingObstacle (rx_ws yX8_crossingObstacle cX8_crossingObstacle 3 (some .int)) (rx_rmX 7 103 1 6) (va_Pc [.ref b, .int x1] (rx_G G k h n)) (va_Qi (fun r u => y.1 = 0 ∧ y.2 = r ∧ u = (h, n)) (rx_B G k) (rx_A k)) (rx_XC G k (fun E u => ¬ y.1 = 0 ∧ E = rx_ex y.1 ∧ u.1 = h ∧ n ≤ u.2)) 1 6 (rx_A k) := by
  refine rx_startX [(0, .ref b), (1, .int x1)] rfl (Nat.le_of_ble_eq_true rfl) (by decide) (fun P9 E9 S9 M9 A9 B9 me9 c9 C hno => ?_)
  unfold F_X8_crossingObstacle at hF
  refine rx_aload_n C dX8_crossingObstacle_0 0 rfl ?_
  refine rx_iload_n C dX8_crossingObstacle_1 1 rfl ?_
  replace hF := rx_biE hF; obtain ⟨y1, e_y1, hF⟩ := hF
  refine rx_xcv (rx_rVX C (w_X8_requirePerson hst e_y1 b_B b_s) Y_X8_requirePerson V_X8_requirePerson m_X8_148 (Or.inl ⟨_, _, _, _, b_B, rfl⟩) ⟨⟨rfl, rfl⟩, ⟨(Nat.le_of_ble_eq_true rfl), (Nat.le_of_ble_eq_true rfl)⟩, ⟨(Nat.le_of_ble_eq_true rfl), (Nat.le_of_ble_eq_true rfl)⟩⟩ rfl rfl (Nat.le_of_ble_eq_true rfl) dX8_crossingObstacle_2) (fun E hh n1 hx => ?_) (fun hh n1 hpp => ?_)
  · obtain ⟨hx0, hx1, hx2, hx3⟩ := hx
    rw [if_neg hx0] at hF
    obtain rfl := Option.some.inj hF
    subst hx1
    replace hx2 : hh = h := hx2
    subst hx2
    exact rx_xout C hno (Nat.le_of_ble_eq_true rfl) (Nat.le_of_ble_eq_true rfl) ⟨hx0, rfl, rfl, hx3⟩
  obtain ⟨hz0_y1, hu⟩ := hpp
  cases hu
  rw [if_pos hz0_y1] at hF
  refine rx_aload_n C dX8_crossingObstacle_5 0 rfl ?_
  refine rx_getf C f_X8_31 dX8_crossingObstacle_6 b_B rfl ?_
  refine rx_getfN C f_X8_120 dX8_crossingObstacle_9 b_p.1 rfl ?_
  refine rx_sipush C dX8_crossingObstacle_12 (9999 : Int32) (by decide) ?_
  refine rx_icmp_le C dX8_crossingObstacle_15 20 (by decide) (fun c2 => ?_) (fun c2 => ?_)
  · rw [if_pos c2] at hF
    refine rx_aload_n C dX8_crossingObstacle_20 0 rfl ?_
    refine rx_getf C f_X8_31 dX8_crossingObstacle_21 b_B rfl ?_
    refine rx_getfN C f_X8_155 dX8_crossingObstacle_24 b_p.1 rfl ?_
    refine rx_iload_n C dX8_crossingObstacle_27 1 rfl ?_
    refine rx_ci (rx_rS C (w_at b_p.2.2.1 (by decide)) Y_X8_at S_X8_at m_X8_136 ⟨⟨rfl, rfl⟩, ⟨(Nat.le_of_ble_eq_true rfl), (Nat.le_of_ble_eq_true rfl)⟩, ⟨(Nat.le_of_ble_eq_true rfl), (Nat.le_of_ble_eq_true rfl)⟩⟩ rfl rfl (Nat.le_of_ble_eq_true rfl) dX8_crossingObstacle_28) (fun r hh n1 hpp => ?_)
    obtain ⟨rfl, hu⟩ := hpp
    cases hu
    refine rx_aload_n C dX8_crossingObstacle_31 0 rfl ?_
    refine rx_getf C f_X8_31 dX8_crossingObstacle_32 b_B rfl ?_
    replace hF := rx_biE hF; obtain ⟨y3, e_y3, hF⟩ := hF
    refine rx_ci (rx_rVN C (w_X2_departureBank e_y3 b_p) Y_X2_departureBank V_X2_departureBank m_X8_271 (Or.inl ⟨_, _, _, _, b_p.1, rfl⟩) ⟨⟨rfl, rfl⟩, ⟨(Nat.le_of_ble_eq_true rfl), (Nat.le_of_ble_eq_true rfl)⟩, ⟨(Nat.le_of_ble_eq_true rfl), (Nat.le_of_ble_eq_true rfl)⟩⟩ rfl rfl (Nat.le_of_ble_eq_true rfl) dX8_crossingObstacle_35) (fun r hh n1 hpp => ?_)
    obtain ⟨rfl, hu⟩ := hpp
    cases hu
    refine rx_icmp_eq C dX8_crossingObstacle_38 43 (by decide) (fun c4 => ?_) (fun c4 => ?_)
    · rw [if_pos c4] at hF
      refine rx_aload_n C dX8_crossingObstacle_43 0 rfl ?_
      refine rx_getf C f_X8_23 dX8_crossingObstacle_44 b_B rfl ?_
      refine rx_aload_n C dX8_crossingObstacle_47 0 rfl ?_
      refine rx_getf C f_X8_31 dX8_crossingObstacle_48 b_B rfl ?_
      refine rx_getfN C f_X8_120 dX8_crossingObstacle_51 b_p.1 rfl ?_
      replace hF := rx_biE hF; obtain ⟨y5, e_y5, hF⟩ := hF
      refine rx_ci (rx_rVN C (w_X5_roomIn e_y5 b_s) Y_X5_roomIn V_X5_roomIn m_X8_256 (Or.inl ⟨_, _, _, _, b_s.1, rfl⟩) ⟨⟨rfl, rfl⟩, ⟨(Nat.le_of_ble_eq_true rfl), (Nat.le_of_ble_eq_true rfl)⟩, ⟨(Nat.le_of_ble_eq_true rfl), (Nat.le_of_ble_eq_true rfl)⟩⟩ rfl rfl (Nat.le_of_ble_eq_true rfl) dX8_crossingObstacle_54) (fun r hh n1 hpp => ?_)
      obtain ⟨rfl, hu⟩ := hpp
      cases hu
      refine rx_if_ne C dX8_crossingObstacle_57 62 (by decide) (fun c6 => ?_) (fun c6 => ?_)
      · rw [if_neg c6] at hF
        refine rx_aload_n C dX8_crossingObstacle_62 0 rfl ?_
        refine rx_getf C f_X8_31 dX8_crossingObstacle_63 b_B rfl ?_
        refine rx_iload_n C dX8_crossingObstacle_66 1 rfl ?_
        replace hF := rx_biE hF; obtain ⟨y7, e_y7, hF⟩ := hF
        refine rx_ci (rx_rVN C (w_X2_tollNow e_y7 b_p b_s (by omega)) Y_X2_tollNow V_X2_tollNow m_X8_196 (Or.inl ⟨_, _, _, _, b_p.1, rfl⟩) ⟨⟨rfl, rfl⟩, ⟨(Nat.le_of_ble_eq_true rfl), (Nat.le_of_ble_eq_true rfl)⟩, ⟨(Nat.le_of_ble_eq_true rfl), (Nat.le_of_ble_eq_true rfl)⟩⟩ rfl rfl (Nat.le_of_ble_eq_true rfl) dX8_crossingObstacle_67) (fun r hh n1 hpp => ?_)
        obtain ⟨rfl, hu⟩ := hpp
        cases hu
        refine rx_iconst C dX8_crossingObstacle_70 (0 : Int32) (by decide) ?_
        refine rx_aload_n C dX8_crossingObstacle_71 0 rfl ?_
        refine rx_getf C f_X8_31 dX8_crossingObstacle_72 b_B rfl ?_
        refine rx_iload_n C dX8_crossingObstacle_75 1 rfl ?_
        replace hF := rx_biE hF; obtain ⟨y8, e_y8, hF⟩ := hF
        refine rx_ci (rx_rVN C (w_X2_offerOf e_y8 b_p b_w b_e) Y_X2_offerOf V_X2_offerOf m_X8_241 (Or.inl ⟨_, _, _, _, b_p.1, rfl⟩) ⟨⟨rfl, rfl⟩, ⟨(Nat.le_of_ble_eq_true rfl), (Nat.le_of_ble_eq_true rfl)⟩, ⟨(Nat.le_of_ble_eq_true rfl), (Nat.le_of_ble_eq_true rfl)⟩⟩ rfl rfl (Nat.le_of_ble_eq_true rfl) dX8_crossingObstacle_76) (fun r hh n1 hpp => ?_)
        obtain ⟨rfl, hu⟩ := hpp
        cases hu
        refine rx_mmax C m_X8_274 (Nat.le_of_ble_eq_true rfl) (Nat.le_of_ble_eq_true rfl) (Nat.le_refl _) (Nat.le_refl _) dX8_crossingObstacle_79 ?_
        replace hF := rx_leE hF; obtain ⟨v9, e_v9, hF⟩ := hF
        rw [e_v9]
        refine rx_iadd C dX8_crossingObstacle_82 ?_
        replace hF := rx_leE hF; obtain ⟨v10, e_v10, hF⟩ := hF
        rw [e_v10]
        refine rx_istore_n C dX8_crossingObstacle_83 (by decide) [(2, .int v10), (0, .ref b), (1, .int x1)] rfl ?_
        refine rx_aload_n C dX8_crossingObstacle_84 1 rfl ?_
        refine rx_getf C f_X8_31 dX8_crossingObstacle_85 b_B rfl ?_
        refine rx_getfN C f_X8_158 dX8_crossingObstacle_88 b_p.1 rfl ?_
        refine rx_iload_n C dX8_crossingObstacle_91 2 rfl ?_
        refine rx_ci (rx_rS C (w_at b_p.2.2.2.1 (by decide)) Y_X8_at S_X8_at m_X8_136 ⟨⟨rfl, rfl⟩, ⟨(Nat.le_of_ble_eq_true rfl), (Nat.le_of_ble_eq_true rfl)⟩, ⟨(Nat.le_of_ble_eq_true rfl), (Nat.le_of_ble_eq_true rfl)⟩⟩ rfl rfl (Nat.le_of_ble_eq_true rfl) dX8_crossingObstacle_92) (fun r hh n1 hpp => ?_)
        obtain ⟨rfl, hu⟩ := hpp
        cases hu
        refine rx_iload_n C dX8_crossingObstacle_95 0 rfl ?_
        refine rx_icmp_ge C dX8_crossingObstacle_96 103 (by decide) (fun c11 => ?_) (fun c11 => ?_)
        · rw [if_pos c11] at hF
          refine rx_iconst C dX8_crossingObstacle_103 (0 : Int32) (by decide) ?_
          obtain rfl := Option.some.inj hF
          exact rx_xret (rx_iret C dX8_crossingObstacle_104 (Nat.le_of_ble_eq_true rfl) (Nat.le_of_ble_eq_true rfl) ⟨rfl, rfl, rfl⟩)
        · rw [if_neg c11] at hF
          refine rx_iconst C dX8_crossingObstacle_99 (4 : Int32) (by decide) ?_
          refine rx_goto C dX8_crossingObstacle_100 104 (by decide) ?_
          obtain rfl := Option.some.inj hF
          exact rx_xret (rx_iret C dX8_crossingObstacle_104 (Nat.le_of_ble_eq_true rfl) (Nat.le_of_ble_eq_true rfl) ⟨rfl, rfl, rfl⟩)
      · rw [if_pos c6] at hF
        refine rx_iconst C dX8_crossingObstacle_60 (3 : Int32) (by decide) ?_
        obtain rfl := Option.some.inj hF
        exact rx_xret (rx_iret C dX8_crossingObstacle_61 (Nat.le_of_ble_eq_true rfl) (Nat.le_of_ble_eq_true rfl) ⟨rfl, rfl, rfl⟩)
    · rw [if_neg c4] at hF
      refine rx_iconst C dX8_crossingObstacle_41 (2 : Int32) (by decide) ?_
      obtain rfl := Option.some.inj hF
      exact rx_xret (rx_iret C dX8_crossingObstacle_42 (Nat.le_of_ble_eq_true rfl) (Nat.le_of_ble_eq_true rfl) ⟨rfl, rfl, rfl⟩)
  · rw [if_neg c2] at hF
    refine rx_iconst C dX8_crossingObstacle_18 (1 : Int32) (by decide) ?_
    obtain rfl := Option.some.inj hF
    exact rx_xret (rx_iret C dX8_crossingObstacle_19 (Nat.le_of_ble_eq_true rfl) (Nat.le_of_ble_eq_true rfl) ⟨rfl, rfl, rfl⟩)
def F_X8_coinGap (oB : ob) (os : ob) (op : ob) : Option (Int32) := (F_X2_coinsInAll op os).bind fun y1 => (F_X5_coinsInAll os).bind fun y2 => rx_le (if 0 ≤ (y1 - y2) then (y1 - y2) else 0 - (y1 - y2)) fun v3 => some v3
set_option maxRecDepth 100000 in
set_option maxHeartbeats 4000000 in
theorem w_X8_coinGap {b : Nat} {oB : ob} {os : ob} {op : ob} {y : Int32} (hF : F_X8_coinGap oB os op = some y) (b_B : bB k b oB h) (b_s : bS k (b + 12) os h) (b_p : bP k (b + 21) (b + 12) op h) : Met l yX8_coinGap (rx_ws yX8_coinGap cX8_coinGap 1 (some .int)) (rx_rm 2 43) (va_Pc [.ref b] (rx_G G k h n)) (va_Qi (fun r u => y = r ∧ u = (h, n)) (rx_B G k) (rx_A k)) 0 0 (rx_A k) := by
  refine rx_start [(0, .ref b)] rfl (Nat.le_of_ble_eq_true rfl) (by decide) rfl (fun P9 E9 S9 M9 A9 B9 me9 c9 C hname => ?_)
  unfold F_X8_coinGap at hF
  refine rx_aload_n C dX8_coinGap_0 0 rfl ?_
  refine rx_getf C f_X8_31 dX8_coinGap_1 b_B rfl ?_
  replace hF := rx_biE hF; obtain ⟨y1, e_y1, hF⟩ := hF
  refine rx_ci (rx_rVN C (w_X2_coinsInAll e_y1 b_p b_s (by omega)) Y_X2_coinsInAll V_X2_coinsInAll m_X8_279 (Or.inl ⟨_, _, _, _, b_p.1, rfl⟩) ⟨⟨rfl, rfl⟩, ⟨(Nat.le_of_ble_eq_true rfl), (Nat.le_of_ble_eq_true rfl)⟩, ⟨(Nat.le_of_ble_eq_true rfl), (Nat.le_of_ble_eq_true rfl)⟩⟩ rfl rfl (Nat.le_of_ble_eq_true rfl) dX8_coinGap_4) (fun r hh n1 hpp => ?_)
  obtain ⟨rfl, hu⟩ := hpp
  cases hu
  refine rx_aload_n C dX8_coinGap_7 0 rfl ?_
  refine rx_getf C f_X8_23 dX8_coinGap_8 b_B rfl ?_
  replace hF := rx_biE hF; obtain ⟨y2, e_y2, hF⟩ := hF
  refine rx_ci (rx_rVN C (w_X5_coinsInAll e_y2 b_s) Y_X5_coinsInAll V_X5_coinsInAll m_X8_282 (Or.inl ⟨_, _, _, _, b_s.1, rfl⟩) ⟨⟨rfl, rfl⟩, ⟨(Nat.le_of_ble_eq_true rfl), (Nat.le_of_ble_eq_true rfl)⟩, ⟨(Nat.le_of_ble_eq_true rfl), (Nat.le_of_ble_eq_true rfl)⟩⟩ rfl rfl (Nat.le_of_ble_eq_true rfl) dX8_coinGap_11) (fun r hh n1 hpp => ?_)
  obtain ⟨rfl, hu⟩ := hpp
  cases hu
  refine rx_isub C dX8_coinGap_14 ?_
  refine rx_mabs C m_X8_283 (Nat.le_of_ble_eq_true rfl) (Nat.le_of_ble_eq_true rfl) (Nat.le_refl _) (Nat.le_refl _) dX8_coinGap_15 ?_
  replace hF := rx_leE hF; obtain ⟨v3, e_v3, hF⟩ := hF
  rw [e_v3]
  obtain rfl := Option.some.inj hF
  exact rx_iret C dX8_coinGap_18 (Nat.le_refl _) (Nat.le_refl _) ⟨rfl, rfl⟩
def F_X8_allow (oB : ob) (os : ob) (op : ob) (ow : ob) (oe : ob) (oH : hst) (z1 : Nat) (x2 : Int32) (x3 : Int32) : Option (Int32 × hst) := (F_X2_faultOf op ow oe os z1 x2 x3).bind fun y1 => if y1 = (1 : Int32) then (some ((1 : Int32), oH)) else (if y1 = (2 : Int32) then (some ((2 : Int32), oH)) else (if y1 = (3 : Int32) then (some ((3 : Int32), oH)) else ((F_X1_push oH op ow oe).bind fun y5 => some ((0 : Int32), y5))))
set_option maxRecDepth 100000 in
set_option maxHeartbeats 4000000 in
theorem w_X8_allow {b : Nat} {oB : ob} {os : ob} {op : ob} {ow : ob} {oe : ob} {oH : hst} {z1 : Nat} {x2 : Int32} {x3 : Int32} {y : Int32 × hst} (hst : l.stackTraces = false) (hF : F_X8_allow oB os op ow oe oH z1 x2 x3 = some y) (b_B : bB k b oB h) (b_s : bS k (b + 12) os h) (b_p : bP k (b + 21) (b + 12) op h) (b_w : bQ k (b + 21 + 10) ow h) (b_e : bQ k (b + 21 + 13) oe h) (b_H : bHH k (b + 69) (b + 12) oH h) (hz_z1 : z1 < 9) : vx_Met l yX8_allow (rx_ws yX8_allow cX8_allow 5 none) (rx_rmX 6 125 1 6) (va_Pc [.ref b, .ref (k (10 + z1)), .int x2, .int x3] (rx_G G k h n)) (va_Qv (fun u => y.1 = 0 ∧ u.2 = n ∧ bHH k (b + 69) (b + 12) y.2 u.1 ∧ rx_fr [(b + 69, 130)] h u.1) (rx_B G k) (rx_A k)) (rx_XC G k (fun E u => ¬ y.1 = 0 ∧ E = rx_ex y.1 ∧ u.1 = h ∧ n ≤ u.2)) 1 6 (rx_A k) := by
  have s_B_H : b + 1 ≤ b + 69 ∨ b + 69 + 130 ≤ b := by omega
  have s_s_H : b + 12 + 9 ≤ b + 69 ∨ b + 69 + 130 ≤ b + 12 := by omega
  have s_p_H : b + 21 + 10 ≤ b + 69 ∨ b + 69 + 130 ≤ b + 21 := by omega
  have s_w_H : b + 21 + 10 + 3 ≤ b + 69 ∨ b + 69 + 130 ≤ b + 21 + 10 := by omega
  have s_e_H : b + 21 + 13 + 3 ≤ b + 69 ∨ b + 69 + 130 ≤ b + 21 + 13 := by omega
  refine rx_startX [(0, .ref b), (1, .ref (k (10 + z1))), (2, .int x2), (3, .int x3)] rfl (Nat.le_of_ble_eq_true rfl) (by decide) (fun P9 E9 S9 M9 A9 B9 me9 c9 C hno => ?_)
  unfold F_X8_allow at hF
  have fr : rx_fr [(b + 69, 130)] h h := rx_fr0
  refine rx_aload_n C dX8_allow_0 0 rfl ?_
  refine rx_getf C f_X8_31 dX8_allow_1 b_B rfl ?_
  refine rx_aload_n C dX8_allow_4 1 rfl ?_
  refine rx_iload_n C dX8_allow_5 2 rfl ?_
  refine rx_iload_n C dX8_allow_6 3 rfl ?_
  replace hF := rx_biE hF; obtain ⟨y1, e_y1, hF⟩ := hF
  refine rx_ci (rx_rVN C (w_X2_faultOf e_y1 b_p b_w b_e b_s hz_z1 (by omega)) Y_X2_faultOf V_X2_faultOf m_X8_396 (Or.inl ⟨_, _, _, _, b_p.1, rfl⟩) ⟨⟨rfl, rfl⟩, ⟨(Nat.le_of_ble_eq_true rfl), (Nat.le_of_ble_eq_true rfl)⟩, ⟨(Nat.le_of_ble_eq_true rfl), (Nat.le_of_ble_eq_true rfl)⟩⟩ rfl rfl (Nat.le_of_ble_eq_true rfl) dX8_allow_7) (fun r hh n1 hpp => ?_)
  obtain ⟨rfl, hu⟩ := hpp
  cases hu
  refine rx_istore C dX8_allow_10 (by decide) [(4, .int y1), (0, .ref b), (1, .ref (k (10 + z1))), (2, .int x2), (3, .int x3)] rfl ?_
  refine rx_iload C dX8_allow_12 0 rfl ?_
  refine rx_iconst C dX8_allow_14 (1 : Int32) (by decide) ?_
  refine rx_icmp_ne C dX8_allow_15 29 (by decide) (fun c2 => ?_) (fun c2 => ?_)
  · rw [if_neg c2] at hF
    refine rx_iload C dX8_allow_29 0 rfl ?_
    refine rx_iconst C dX8_allow_31 (2 : Int32) (by decide) ?_
    refine rx_icmp_ne C dX8_allow_32 46 (by decide) (fun c3 => ?_) (fun c3 => ?_)
    · rw [if_neg c3] at hF
      refine rx_iload C dX8_allow_46 0 rfl ?_
      refine rx_iconst C dX8_allow_48 (3 : Int32) (by decide) ?_
      refine rx_icmp_ne C dX8_allow_49 63 (by decide) (fun c4 => ?_) (fun c4 => ?_)
      · rw [if_neg c4] at hF
        refine rx_aload_n C dX8_allow_63 1 rfl ?_
        refine rx_getf C f_X8_44 dX8_allow_64 b_B rfl ?_
        refine rx_aload_n C dX8_allow_67 1 rfl ?_
        refine rx_getf C f_X8_31 dX8_allow_68 b_B rfl ?_
        replace hF := rx_biE hF; obtain ⟨y5, e_y5, hF⟩ := hF
        refine rx_cv (rx_rVN C (w_X1_push e_y5 b_H b_p b_w b_e (by omega)) Y_X1_push V_X1_push m_X8_351 (Or.inl ⟨_, _, _, _, b_H.1.1, rfl⟩) ⟨⟨rfl, rfl⟩, ⟨(Nat.le_of_ble_eq_true rfl), (Nat.le_of_ble_eq_true rfl)⟩, ⟨(Nat.le_of_ble_eq_true rfl), (Nat.le_of_ble_eq_true rfl)⟩⟩ rfl rfl (Nat.le_of_ble_eq_true rfl) dX8_allow_71) (fun hh n1 hpp => ?_)
        obtain ⟨hn, c_H, ff⟩ := hpp
        replace hn : n = n1 := Eq.symm hn
        subst hn
        replace b_H : bHH k (b + 69) (b + 12) y5 hh := c_H
        clear c_H
        replace ff : rx_fr [(b + 69, 130)] _ hh := ff
        replace b_B := b_B.keep ff ⟨s_B_H, trivial⟩
        replace b_s := b_s.keep ff ⟨s_s_H, trivial⟩
        replace b_p := b_p.keep ff ⟨s_p_H, trivial⟩
        replace b_w := b_w.keep ff ⟨s_w_H, trivial⟩
        replace b_e := b_e.keep ff ⟨s_e_H, trivial⟩
        replace fr := rx_frt fr ff (fun a ha => ⟨ha.1, trivial⟩)
        obtain rfl := Option.some.inj hF
        exact rx_xret (rx_vret C dX8_allow_74 (Nat.le_of_ble_eq_true rfl) (Nat.le_of_ble_eq_true rfl) ⟨rfl, rfl, b_H, fr⟩)
      · rw [if_pos c4] at hF
        obtain rfl := Option.some.inj hF
        exact rx_throwW (t := 13) C hst XW_375_379 (List.mem_of_getElem? (i := 13) rfl) hno dX8_allow_52 dX8_allow_55 dX8_allow_56 dX8_allow_59 dX8_allow_62 (Nat.le_of_ble_eq_true rfl) (Nat.le_of_ble_eq_true rfl) (Nat.le_of_ble_eq_true rfl) (Nat.le_of_ble_eq_true rfl) (Nat.le_of_ble_eq_true rfl) (Nat.le_of_ble_eq_true rfl) (fun n1 hn1 => ⟨(show ¬ (3 : Int32) = 0 by decide), rfl, rfl, hn1⟩)
    · rw [if_pos c3] at hF
      obtain rfl := Option.some.inj hF
      exact rx_throwW (t := 12) C hst XW_179_183 (List.mem_of_getElem? (i := 12) rfl) hno dX8_allow_35 dX8_allow_38 dX8_allow_39 dX8_allow_42 dX8_allow_45 (Nat.le_of_ble_eq_true rfl) (Nat.le_of_ble_eq_true rfl) (Nat.le_of_ble_eq_true rfl) (Nat.le_of_ble_eq_true rfl) (Nat.le_of_ble_eq_true rfl) (Nat.le_of_ble_eq_true rfl) (fun n1 hn1 => ⟨(show ¬ (2 : Int32) = 0 by decide), rfl, rfl, hn1⟩)
  · rw [if_pos c2] at hF
    obtain rfl := Option.some.inj hF
    exact rx_throwW (t := 7) C hst XW_247_251 (List.mem_of_getElem? (i := 7) rfl) hno dX8_allow_18 dX8_allow_21 dX8_allow_22 dX8_allow_25 dX8_allow_28 (Nat.le_of_ble_eq_true rfl) (Nat.le_of_ble_eq_true rfl) (Nat.le_of_ble_eq_true rfl) (Nat.le_of_ble_eq_true rfl) (Nat.le_of_ble_eq_true rfl) (Nat.le_of_ble_eq_true rfl) (fun n1 hn1 => ⟨(show ¬ (1 : Int32) = 0 by decide), rfl, rfl, hn1⟩)
def F_X8_dropCoins (oB : ob) (os : ob) (op : ob) (ow : ob) (oe : ob) (oH : hst) (x1 : Int32) (x2 : Int32) : Option (Int32 × Int32 × ob × hst) := (F_X8_allow oB os op ow oe oH 0 x1 x2).bind fun y1 => if y1.1 = (0 : Int32) then ((F_X2_drop op x1 x2).bind fun y2 => some ((0 : Int32), y2.1, y2.2, y1.2)) else (some (y1.1, (0 : Int32), op, oH))
set_option maxRecDepth 100000 in
set_option maxHeartbeats 4000000 in
theorem w_X8_dropCoins {b : Nat} {oB : ob} {os : ob} {op : ob} {ow : ob} {oe : ob} {oH : hst} {x1 : Int32} {x2 : Int32} {y : Int32 × Int32 × ob × hst} (hst : l.stackTraces = false) (hF : F_X8_dropCoins oB os op ow oe oH x1 x2 = some y) (b_B : bB k b oB h) (b_s : bS k (b + 12) os h) (b_p : bP k (b + 21) (b + 12) op h) (b_w : bQ k (b + 21 + 10) ow h) (b_e : bQ k (b + 21 + 13) oe h) (b_H : bHH k (b + 69) (b + 12) oH h) : vx_Met l yX8_dropCoins (rx_ws yX8_dropCoins cX8_dropCoins 3 (some .int)) (rx_rmX 7 149 1 6) (va_Pc [.ref b, .int x1, .int x2] (rx_G G k h n)) (va_Qi (fun r u => y.1 = 0 ∧ y.2.1 = r ∧ u.2 = n ∧ bP k (b + 21) (b + 12) y.2.2.1 u.1 ∧ bHH k (b + 69) (b + 12) y.2.2.2 u.1 ∧ rx_fr [(b + 21, 10), (b + 69, 130)] h u.1) (rx_B G k) (rx_A k)) (rx_XC G k (fun E u => ¬ y.1 = 0 ∧ E = rx_ex y.1 ∧ u.1 = h ∧ n ≤ u.2)) 1 6 (rx_A k) := by
  have s_B_H : b + 1 ≤ b + 69 ∨ b + 69 + 130 ≤ b := by omega
  have s_s_H : b + 12 + 9 ≤ b + 69 ∨ b + 69 + 130 ≤ b + 12 := by omega
  have s_p_H : b + 21 + 10 ≤ b + 69 ∨ b + 69 + 130 ≤ b + 21 := by omega
  have s_w_H : b + 21 + 10 + 3 ≤ b + 69 ∨ b + 69 + 130 ≤ b + 21 + 10 := by omega
  have s_e_H : b + 21 + 13 + 3 ≤ b + 69 ∨ b + 69 + 130 ≤ b + 21 + 13 := by omega
  have s_B_p : b + 1 ≤ b + 21 ∨ b + 21 + 10 ≤ b := by omega
  have s_s_p : b + 12 + 9 ≤ b + 21 ∨ b + 21 + 10 ≤ b + 12 := by omega
  have s_w_p : b + 21 + 10 + 3 ≤ b + 21 ∨ b + 21 + 10 ≤ b + 21 + 10 := by omega
  have s_e_p : b + 21 + 13 + 3 ≤ b + 21 ∨ b + 21 + 10 ≤ b + 21 + 13 := by omega
  have s_H_p : b + 69 + 130 ≤ b + 21 ∨ b + 21 + 10 ≤ b + 69 := by omega
  refine rx_startX [(0, .ref b), (1, .int x1), (2, .int x2)] rfl (Nat.le_of_ble_eq_true rfl) (by decide) (fun P9 E9 S9 M9 A9 B9 me9 c9 C hno => ?_)
  unfold F_X8_dropCoins at hF
  have fr : rx_fr [(b + 21, 10), (b + 69, 130)] h h := rx_fr0
  refine rx_aload_n C dX8_dropCoins_0 0 rfl ?_
  refine rx_gets C (C.2.2.2.2.2.2.2.2.2.1 0 (by decide)).1 sf_X8_286 dX8_dropCoins_1 ?_
  refine rx_iload_n C dX8_dropCoins_4 1 rfl ?_
  refine rx_iload_n C dX8_dropCoins_5 2 rfl ?_
  replace hF := rx_biE hF; obtain ⟨y1, e_y1, hF⟩ := hF
  refine rx_xcv (rx_rVX C (w_X8_allow hst e_y1 b_B b_s b_p b_w b_e b_H (by decide)) Y_X8_allow V_X8_allow m_X8_292 (Or.inl ⟨_, _, _, _, b_B, rfl⟩) ⟨⟨rfl, rfl⟩, ⟨(Nat.le_of_ble_eq_true rfl), (Nat.le_of_ble_eq_true rfl)⟩, ⟨(Nat.le_of_ble_eq_true rfl), (Nat.le_of_ble_eq_true rfl)⟩⟩ rfl rfl (Nat.le_of_ble_eq_true rfl) dX8_dropCoins_6) (fun E hh n1 hx => ?_) (fun hh n1 hpp => ?_)
  · obtain ⟨hx0, hx1, hx2, hx3⟩ := hx
    rw [if_neg hx0] at hF
    obtain rfl := Option.some.inj hF
    subst hx1
    replace hx2 : hh = h := hx2
    subst hx2
    exact rx_xout C hno (Nat.le_of_ble_eq_true rfl) (Nat.le_of_ble_eq_true rfl) ⟨hx0, rfl, rfl, hx3⟩
  obtain ⟨hz0_y1, hn, c_H, ff⟩ := hpp
  replace hn : n = n1 := Eq.symm hn
  subst hn
  replace b_H : bHH k (b + 69) (b + 12) y1.2 hh := c_H
  clear c_H
  replace ff : rx_fr [(b + 69, 130)] _ hh := ff
  replace b_B := b_B.keep ff ⟨s_B_H, trivial⟩
  replace b_s := b_s.keep ff ⟨s_s_H, trivial⟩
  replace b_p := b_p.keep ff ⟨s_p_H, trivial⟩
  replace b_w := b_w.keep ff ⟨s_w_H, trivial⟩
  replace b_e := b_e.keep ff ⟨s_e_H, trivial⟩
  replace fr := rx_frt fr ff (fun a ha => ⟨ha.2.1, trivial⟩)
  rw [if_pos hz0_y1] at hF
  refine rx_aload_n C dX8_dropCoins_9 0 rfl ?_
  refine rx_getf C f_X8_31 dX8_dropCoins_10 b_B rfl ?_
  refine rx_iload_n C dX8_dropCoins_13 1 rfl ?_
  refine rx_iload_n C dX8_dropCoins_14 2 rfl ?_
  replace hF := rx_biE hF; obtain ⟨y2, e_y2, hF⟩ := hF
  refine rx_ci (rx_rVN C (w_X2_drop e_y2 b_p) Y_X2_drop V_X2_drop m_X8_296 (Or.inl ⟨_, _, _, _, b_p.1, rfl⟩) ⟨⟨rfl, rfl⟩, ⟨(Nat.le_of_ble_eq_true rfl), (Nat.le_of_ble_eq_true rfl)⟩, ⟨(Nat.le_of_ble_eq_true rfl), (Nat.le_of_ble_eq_true rfl)⟩⟩ rfl rfl (Nat.le_of_ble_eq_true rfl) dX8_dropCoins_15) (fun r hh n1 hpp => ?_)
  obtain ⟨rfl, hn, c_p, ff⟩ := hpp
  replace hn : n = n1 := Eq.symm hn
  subst hn
  replace b_p : bP k (b + 21) (b + 12) y2.2 hh := c_p
  clear c_p
  replace ff : rx_fr [(b + 21, 10)] _ hh := ff
  replace b_B := b_B.keep ff ⟨s_B_p, trivial⟩
  replace b_s := b_s.keep ff ⟨s_s_p, trivial⟩
  replace b_w := b_w.keep ff ⟨s_w_p, trivial⟩
  replace b_e := b_e.keep ff ⟨s_e_p, trivial⟩
  replace b_H := b_H.keep ff ⟨s_H_p, trivial⟩
  replace fr := rx_frt fr ff (fun a ha => ⟨ha.1, trivial⟩)
  obtain rfl := Option.some.inj hF
  exact rx_xret (rx_iret C dX8_dropCoins_18 (Nat.le_of_ble_eq_true rfl) (Nat.le_of_ble_eq_true rfl) ⟨rfl, rfl, rfl, b_p, b_H, fr⟩)
def F_X8_pickCoins (oB : ob) (os : ob) (op : ob) (ow : ob) (oe : ob) (oH : hst) (x1 : Int32) (x2 : Int32) : Option (Int32 × Int32 × ob × hst) := (F_X8_allow oB os op ow oe oH 1 x1 x2).bind fun y1 => if y1.1 = (0 : Int32) then ((F_X2_pick op x1 x2).bind fun y2 => some ((0 : Int32), y2.1, y2.2, y1.2)) else (some (y1.1, (0 : Int32), op, oH))
set_option maxRecDepth 100000 in
set_option maxHeartbeats 4000000 in
theorem w_X8_pickCoins {b : Nat} {oB : ob} {os : ob} {op : ob} {ow : ob} {oe : ob} {oH : hst} {x1 : Int32} {x2 : Int32} {y : Int32 × Int32 × ob × hst} (hst : l.stackTraces = false) (hF : F_X8_pickCoins oB os op ow oe oH x1 x2 = some y) (b_B : bB k b oB h) (b_s : bS k (b + 12) os h) (b_p : bP k (b + 21) (b + 12) op h) (b_w : bQ k (b + 21 + 10) ow h) (b_e : bQ k (b + 21 + 13) oe h) (b_H : bHH k (b + 69) (b + 12) oH h) : vx_Met l yX8_pickCoins (rx_ws yX8_pickCoins cX8_pickCoins 3 (some .int)) (rx_rmX 7 149 1 6) (va_Pc [.ref b, .int x1, .int x2] (rx_G G k h n)) (va_Qi (fun r u => y.1 = 0 ∧ y.2.1 = r ∧ u.2 = n ∧ bP k (b + 21) (b + 12) y.2.2.1 u.1 ∧ bHH k (b + 69) (b + 12) y.2.2.2 u.1 ∧ rx_fr [(b + 21, 10), (b + 69, 130)] h u.1) (rx_B G k) (rx_A k)) (rx_XC G k (fun E u => ¬ y.1 = 0 ∧ E = rx_ex y.1 ∧ u.1 = h ∧ n ≤ u.2)) 1 6 (rx_A k) := by
  have s_B_H : b + 1 ≤ b + 69 ∨ b + 69 + 130 ≤ b := by omega
  have s_s_H : b + 12 + 9 ≤ b + 69 ∨ b + 69 + 130 ≤ b + 12 := by omega
  have s_p_H : b + 21 + 10 ≤ b + 69 ∨ b + 69 + 130 ≤ b + 21 := by omega
  have s_w_H : b + 21 + 10 + 3 ≤ b + 69 ∨ b + 69 + 130 ≤ b + 21 + 10 := by omega
  have s_e_H : b + 21 + 13 + 3 ≤ b + 69 ∨ b + 69 + 130 ≤ b + 21 + 13 := by omega
  have s_B_p : b + 1 ≤ b + 21 ∨ b + 21 + 10 ≤ b := by omega
  have s_s_p : b + 12 + 9 ≤ b + 21 ∨ b + 21 + 10 ≤ b + 12 := by omega
  have s_w_p : b + 21 + 10 + 3 ≤ b + 21 ∨ b + 21 + 10 ≤ b + 21 + 10 := by omega
  have s_e_p : b + 21 + 13 + 3 ≤ b + 21 ∨ b + 21 + 10 ≤ b + 21 + 13 := by omega
  have s_H_p : b + 69 + 130 ≤ b + 21 ∨ b + 21 + 10 ≤ b + 69 := by omega
  refine rx_startX [(0, .ref b), (1, .int x1), (2, .int x2)] rfl (Nat.le_of_ble_eq_true rfl) (by decide) (fun P9 E9 S9 M9 A9 B9 me9 c9 C hno => ?_)
  unfold F_X8_pickCoins at hF
  have fr : rx_fr [(b + 21, 10), (b + 69, 130)] h h := rx_fr0
  refine rx_aload_n C dX8_pickCoins_0 0 rfl ?_
  refine rx_gets C (C.2.2.2.2.2.2.2.2.2.1 1 (by decide)).1 sf_X8_299 dX8_pickCoins_1 ?_
  refine rx_iload_n C dX8_pickCoins_4 1 rfl ?_
  refine rx_iload_n C dX8_pickCoins_5 2 rfl ?_
  replace hF := rx_biE hF; obtain ⟨y1, e_y1, hF⟩ := hF
  refine rx_xcv (rx_rVX C (w_X8_allow hst e_y1 b_B b_s b_p b_w b_e b_H (by decide)) Y_X8_allow V_X8_allow m_X8_292 (Or.inl ⟨_, _, _, _, b_B, rfl⟩) ⟨⟨rfl, rfl⟩, ⟨(Nat.le_of_ble_eq_true rfl), (Nat.le_of_ble_eq_true rfl)⟩, ⟨(Nat.le_of_ble_eq_true rfl), (Nat.le_of_ble_eq_true rfl)⟩⟩ rfl rfl (Nat.le_of_ble_eq_true rfl) dX8_pickCoins_6) (fun E hh n1 hx => ?_) (fun hh n1 hpp => ?_)
  · obtain ⟨hx0, hx1, hx2, hx3⟩ := hx
    rw [if_neg hx0] at hF
    obtain rfl := Option.some.inj hF
    subst hx1
    replace hx2 : hh = h := hx2
    subst hx2
    exact rx_xout C hno (Nat.le_of_ble_eq_true rfl) (Nat.le_of_ble_eq_true rfl) ⟨hx0, rfl, rfl, hx3⟩
  obtain ⟨hz0_y1, hn, c_H, ff⟩ := hpp
  replace hn : n = n1 := Eq.symm hn
  subst hn
  replace b_H : bHH k (b + 69) (b + 12) y1.2 hh := c_H
  clear c_H
  replace ff : rx_fr [(b + 69, 130)] _ hh := ff
  replace b_B := b_B.keep ff ⟨s_B_H, trivial⟩
  replace b_s := b_s.keep ff ⟨s_s_H, trivial⟩
  replace b_p := b_p.keep ff ⟨s_p_H, trivial⟩
  replace b_w := b_w.keep ff ⟨s_w_H, trivial⟩
  replace b_e := b_e.keep ff ⟨s_e_H, trivial⟩
  replace fr := rx_frt fr ff (fun a ha => ⟨ha.2.1, trivial⟩)
  rw [if_pos hz0_y1] at hF
  refine rx_aload_n C dX8_pickCoins_9 0 rfl ?_
  refine rx_getf C f_X8_31 dX8_pickCoins_10 b_B rfl ?_
  refine rx_iload_n C dX8_pickCoins_13 1 rfl ?_
  refine rx_iload_n C dX8_pickCoins_14 2 rfl ?_
  replace hF := rx_biE hF; obtain ⟨y2, e_y2, hF⟩ := hF
  refine rx_ci (rx_rVN C (w_X2_pick e_y2 b_p) Y_X2_pick V_X2_pick m_X8_302 (Or.inl ⟨_, _, _, _, b_p.1, rfl⟩) ⟨⟨rfl, rfl⟩, ⟨(Nat.le_of_ble_eq_true rfl), (Nat.le_of_ble_eq_true rfl)⟩, ⟨(Nat.le_of_ble_eq_true rfl), (Nat.le_of_ble_eq_true rfl)⟩⟩ rfl rfl (Nat.le_of_ble_eq_true rfl) dX8_pickCoins_15) (fun r hh n1 hpp => ?_)
  obtain ⟨rfl, hn, c_p, ff⟩ := hpp
  replace hn : n = n1 := Eq.symm hn
  subst hn
  replace b_p : bP k (b + 21) (b + 12) y2.2 hh := c_p
  clear c_p
  replace ff : rx_fr [(b + 21, 10)] _ hh := ff
  replace b_B := b_B.keep ff ⟨s_B_p, trivial⟩
  replace b_s := b_s.keep ff ⟨s_s_p, trivial⟩
  replace b_w := b_w.keep ff ⟨s_w_p, trivial⟩
  replace b_e := b_e.keep ff ⟨s_e_p, trivial⟩
  replace b_H := b_H.keep ff ⟨s_H_p, trivial⟩
  replace fr := rx_frt fr ff (fun a ha => ⟨ha.1, trivial⟩)
  obtain rfl := Option.some.inj hF
  exact rx_xret (rx_iret C dX8_pickCoins_18 (Nat.le_of_ble_eq_true rfl) (Nat.le_of_ble_eq_true rfl) ⟨rfl, rfl, rfl, b_p, b_H, fr⟩)
def F_X8_layRoyalCoin (oB : ob) (os : ob) (op : ob) (ow : ob) (oe : ob) (oH : hst) (x1 : Int32) (x2 : Int32) : Option (Int32 × Int32 × ob × hst) := (F_X8_allow oB os op ow oe oH 2 x1 x2).bind fun y1 => if y1.1 = (0 : Int32) then ((F_X2_lay op os x1 x2).bind fun y2 => some ((0 : Int32), y2.1, y2.2, y1.2)) else (some (y1.1, (0 : Int32), op, oH))
set_option maxRecDepth 100000 in
set_option maxHeartbeats 4000000 in
theorem w_X8_layRoyalCoin {b : Nat} {oB : ob} {os : ob} {op : ob} {ow : ob} {oe : ob} {oH : hst} {x1 : Int32} {x2 : Int32} {y : Int32 × Int32 × ob × hst} (hst : l.stackTraces = false) (hF : F_X8_layRoyalCoin oB os op ow oe oH x1 x2 = some y) (b_B : bB k b oB h) (b_s : bS k (b + 12) os h) (b_p : bP k (b + 21) (b + 12) op h) (b_w : bQ k (b + 21 + 10) ow h) (b_e : bQ k (b + 21 + 13) oe h) (b_H : bHH k (b + 69) (b + 12) oH h) : vx_Met l yX8_layRoyalCoin (rx_ws yX8_layRoyalCoin cX8_layRoyalCoin 3 (some .int)) (rx_rmX 7 149 1 6) (va_Pc [.ref b, .int x1, .int x2] (rx_G G k h n)) (va_Qi (fun r u => y.1 = 0 ∧ y.2.1 = r ∧ u.2 = n ∧ bP k (b + 21) (b + 12) y.2.2.1 u.1 ∧ bHH k (b + 69) (b + 12) y.2.2.2 u.1 ∧ rx_fr [(b + 21, 10), (b + 69, 130)] h u.1) (rx_B G k) (rx_A k)) (rx_XC G k (fun E u => ¬ y.1 = 0 ∧ E = rx_ex y.1 ∧ u.1 = h ∧ n ≤ u.2)) 1 6 (rx_A k) := by
  have s_B_H : b + 1 ≤ b + 69 ∨ b + 69 + 130 ≤ b := by omega
  have s_s_H : b + 12 + 9 ≤ b + 69 ∨ b + 69 + 130 ≤ b + 12 := by omega
  have s_p_H : b + 21 + 10 ≤ b + 69 ∨ b + 69 + 130 ≤ b + 21 := by omega
  have s_w_H : b + 21 + 10 + 3 ≤ b + 69 ∨ b + 69 + 130 ≤ b + 21 + 10 := by omega
  have s_e_H : b + 21 + 13 + 3 ≤ b + 69 ∨ b + 69 + 130 ≤ b + 21 + 13 := by omega
  have s_B_p : b + 1 ≤ b + 21 ∨ b + 21 + 10 ≤ b := by omega
  have s_s_p : b + 12 + 9 ≤ b + 21 ∨ b + 21 + 10 ≤ b + 12 := by omega
  have s_w_p : b + 21 + 10 + 3 ≤ b + 21 ∨ b + 21 + 10 ≤ b + 21 + 10 := by omega
  have s_e_p : b + 21 + 13 + 3 ≤ b + 21 ∨ b + 21 + 10 ≤ b + 21 + 13 := by omega
  have s_H_p : b + 69 + 130 ≤ b + 21 ∨ b + 21 + 10 ≤ b + 69 := by omega
  refine rx_startX [(0, .ref b), (1, .int x1), (2, .int x2)] rfl (Nat.le_of_ble_eq_true rfl) (by decide) (fun P9 E9 S9 M9 A9 B9 me9 c9 C hno => ?_)
  unfold F_X8_layRoyalCoin at hF
  have fr : rx_fr [(b + 21, 10), (b + 69, 130)] h h := rx_fr0
  refine rx_aload_n C dX8_layRoyalCoin_0 0 rfl ?_
  refine rx_gets C (C.2.2.2.2.2.2.2.2.2.1 2 (by decide)).1 sf_X8_305 dX8_layRoyalCoin_1 ?_
  refine rx_iload_n C dX8_layRoyalCoin_4 1 rfl ?_
  refine rx_iload_n C dX8_layRoyalCoin_5 2 rfl ?_
  replace hF := rx_biE hF; obtain ⟨y1, e_y1, hF⟩ := hF
  refine rx_xcv (rx_rVX C (w_X8_allow hst e_y1 b_B b_s b_p b_w b_e b_H (by decide)) Y_X8_allow V_X8_allow m_X8_292 (Or.inl ⟨_, _, _, _, b_B, rfl⟩) ⟨⟨rfl, rfl⟩, ⟨(Nat.le_of_ble_eq_true rfl), (Nat.le_of_ble_eq_true rfl)⟩, ⟨(Nat.le_of_ble_eq_true rfl), (Nat.le_of_ble_eq_true rfl)⟩⟩ rfl rfl (Nat.le_of_ble_eq_true rfl) dX8_layRoyalCoin_6) (fun E hh n1 hx => ?_) (fun hh n1 hpp => ?_)
  · obtain ⟨hx0, hx1, hx2, hx3⟩ := hx
    rw [if_neg hx0] at hF
    obtain rfl := Option.some.inj hF
    subst hx1
    replace hx2 : hh = h := hx2
    subst hx2
    exact rx_xout C hno (Nat.le_of_ble_eq_true rfl) (Nat.le_of_ble_eq_true rfl) ⟨hx0, rfl, rfl, hx3⟩
  obtain ⟨hz0_y1, hn, c_H, ff⟩ := hpp
  replace hn : n = n1 := Eq.symm hn
  subst hn
  replace b_H : bHH k (b + 69) (b + 12) y1.2 hh := c_H
  clear c_H
  replace ff : rx_fr [(b + 69, 130)] _ hh := ff
  replace b_B := b_B.keep ff ⟨s_B_H, trivial⟩
  replace b_s := b_s.keep ff ⟨s_s_H, trivial⟩
  replace b_p := b_p.keep ff ⟨s_p_H, trivial⟩
  replace b_w := b_w.keep ff ⟨s_w_H, trivial⟩
  replace b_e := b_e.keep ff ⟨s_e_H, trivial⟩
  replace fr := rx_frt fr ff (fun a ha => ⟨ha.2.1, trivial⟩)
  rw [if_pos hz0_y1] at hF
  refine rx_aload_n C dX8_layRoyalCoin_9 0 rfl ?_
  refine rx_getf C f_X8_31 dX8_layRoyalCoin_10 b_B rfl ?_
  refine rx_iload_n C dX8_layRoyalCoin_13 1 rfl ?_
  refine rx_iload_n C dX8_layRoyalCoin_14 2 rfl ?_
  replace hF := rx_biE hF; obtain ⟨y2, e_y2, hF⟩ := hF
  refine rx_ci (rx_rVN C (w_X2_lay e_y2 b_p b_s (by omega)) Y_X2_lay V_X2_lay m_X8_308 (Or.inl ⟨_, _, _, _, b_p.1, rfl⟩) ⟨⟨rfl, rfl⟩, ⟨(Nat.le_of_ble_eq_true rfl), (Nat.le_of_ble_eq_true rfl)⟩, ⟨(Nat.le_of_ble_eq_true rfl), (Nat.le_of_ble_eq_true rfl)⟩⟩ rfl rfl (Nat.le_of_ble_eq_true rfl) dX8_layRoyalCoin_15) (fun r hh n1 hpp => ?_)
  obtain ⟨rfl, hn, c_p, ff⟩ := hpp
  replace hn : n = n1 := Eq.symm hn
  subst hn
  replace b_p : bP k (b + 21) (b + 12) y2.2 hh := c_p
  clear c_p
  replace ff : rx_fr [(b + 21, 10)] _ hh := ff
  replace b_B := b_B.keep ff ⟨s_B_p, trivial⟩
  replace b_s := b_s.keep ff ⟨s_s_p, trivial⟩
  replace b_w := b_w.keep ff ⟨s_w_p, trivial⟩
  replace b_e := b_e.keep ff ⟨s_e_p, trivial⟩
  replace b_H := b_H.keep ff ⟨s_H_p, trivial⟩
  replace fr := rx_frt fr ff (fun a ha => ⟨ha.1, trivial⟩)
  obtain rfl := Option.some.inj hF
  exact rx_xret (rx_iret C dX8_layRoyalCoin_18 (Nat.le_of_ble_eq_true rfl) (Nat.le_of_ble_eq_true rfl) ⟨rfl, rfl, rfl, b_p, b_H, fr⟩)
def F_X8_liftRoyalCoin (oB : ob) (os : ob) (op : ob) (ow : ob) (oe : ob) (oH : hst) (x1 : Int32) (x2 : Int32) : Option (Int32 × Int32 × ob × hst) := (F_X8_allow oB os op ow oe oH 3 x1 x2).bind fun y1 => if y1.1 = (0 : Int32) then ((F_X2_lift op os x1 x2).bind fun y2 => some ((0 : Int32), y2.1, y2.2, y1.2)) else (some (y1.1, (0 : Int32), op, oH))
set_option maxRecDepth 100000 in
set_option maxHeartbeats 4000000 in
theorem w_X8_liftRoyalCoin {b : Nat} {oB : ob} {os : ob} {op : ob} {ow : ob} {oe : ob} {oH : hst} {x1 : Int32} {x2 : Int32} {y : Int32 × Int32 × ob × hst} (hst : l.stackTraces = false) (hF : F_X8_liftRoyalCoin oB os op ow oe oH x1 x2 = some y) (b_B : bB k b oB h) (b_s : bS k (b + 12) os h) (b_p : bP k (b + 21) (b + 12) op h) (b_w : bQ k (b + 21 + 10) ow h) (b_e : bQ k (b + 21 + 13) oe h) (b_H : bHH k (b + 69) (b + 12) oH h) : vx_Met l yX8_liftRoyalCoin (rx_ws yX8_liftRoyalCoin cX8_liftRoyalCoin 3 (some .int)) (rx_rmX 7 149 1 6) (va_Pc [.ref b, .int x1, .int x2] (rx_G G k h n)) (va_Qi (fun r u => y.1 = 0 ∧ y.2.1 = r ∧ u.2 = n ∧ bP k (b + 21) (b + 12) y.2.2.1 u.1 ∧ bHH k (b + 69) (b + 12) y.2.2.2 u.1 ∧ rx_fr [(b + 21, 10), (b + 69, 130)] h u.1) (rx_B G k) (rx_A k)) (rx_XC G k (fun E u => ¬ y.1 = 0 ∧ E = rx_ex y.1 ∧ u.1 = h ∧ n ≤ u.2)) 1 6 (rx_A k) := by
  have s_B_H : b + 1 ≤ b + 69 ∨ b + 69 + 130 ≤ b := by omega
  have s_s_H : b + 12 + 9 ≤ b + 69 ∨ b + 69 + 130 ≤ b + 12 := by omega
  have s_p_H : b + 21 + 10 ≤ b + 69 ∨ b + 69 + 130 ≤ b + 21 := by omega
  have s_w_H : b + 21 + 10 + 3 ≤ b + 69 ∨ b + 69 + 130 ≤ b + 21 + 10 := by omega
  have s_e_H : b + 21 + 13 + 3 ≤ b + 69 ∨ b + 69 + 130 ≤ b + 21 + 13 := by omega
  have s_B_p : b + 1 ≤ b + 21 ∨ b + 21 + 10 ≤ b := by omega
  have s_s_p : b + 12 + 9 ≤ b + 21 ∨ b + 21 + 10 ≤ b + 12 := by omega
  have s_w_p : b + 21 + 10 + 3 ≤ b + 21 ∨ b + 21 + 10 ≤ b + 21 + 10 := by omega
  have s_e_p : b + 21 + 13 + 3 ≤ b + 21 ∨ b + 21 + 10 ≤ b + 21 + 13 := by omega
  have s_H_p : b + 69 + 130 ≤ b + 21 ∨ b + 21 + 10 ≤ b + 69 := by omega
  refine rx_startX [(0, .ref b), (1, .int x1), (2, .int x2)] rfl (Nat.le_of_ble_eq_true rfl) (by decide) (fun P9 E9 S9 M9 A9 B9 me9 c9 C hno => ?_)
  unfold F_X8_liftRoyalCoin at hF
  have fr : rx_fr [(b + 21, 10), (b + 69, 130)] h h := rx_fr0
  refine rx_aload_n C dX8_liftRoyalCoin_0 0 rfl ?_
  refine rx_gets C (C.2.2.2.2.2.2.2.2.2.1 3 (by decide)).1 sf_X8_311 dX8_liftRoyalCoin_1 ?_
  refine rx_iload_n C dX8_liftRoyalCoin_4 1 rfl ?_
  refine rx_iload_n C dX8_liftRoyalCoin_5 2 rfl ?_
  replace hF := rx_biE hF; obtain ⟨y1, e_y1, hF⟩ := hF
  refine rx_xcv (rx_rVX C (w_X8_allow hst e_y1 b_B b_s b_p b_w b_e b_H (by decide)) Y_X8_allow V_X8_allow m_X8_292 (Or.inl ⟨_, _, _, _, b_B, rfl⟩) ⟨⟨rfl, rfl⟩, ⟨(Nat.le_of_ble_eq_true rfl), (Nat.le_of_ble_eq_true rfl)⟩, ⟨(Nat.le_of_ble_eq_true rfl), (Nat.le_of_ble_eq_true rfl)⟩⟩ rfl rfl (Nat.le_of_ble_eq_true rfl) dX8_liftRoyalCoin_6) (fun E hh n1 hx => ?_) (fun hh n1 hpp => ?_)
  · obtain ⟨hx0, hx1, hx2, hx3⟩ := hx
    rw [if_neg hx0] at hF
    obtain rfl := Option.some.inj hF
    subst hx1
    replace hx2 : hh = h := hx2
    subst hx2
    exact rx_xout C hno (Nat.le_of_ble_eq_true rfl) (Nat.le_of_ble_eq_true rfl) ⟨hx0, rfl, rfl, hx3⟩
  obtain ⟨hz0_y1, hn, c_H, ff⟩ := hpp
  replace hn : n = n1 := Eq.symm hn
  subst hn
  replace b_H : bHH k (b + 69) (b + 12) y1.2 hh := c_H
  clear c_H
  replace ff : rx_fr [(b + 69, 130)] _ hh := ff
  replace b_B := b_B.keep ff ⟨s_B_H, trivial⟩
  replace b_s := b_s.keep ff ⟨s_s_H, trivial⟩
  replace b_p := b_p.keep ff ⟨s_p_H, trivial⟩
  replace b_w := b_w.keep ff ⟨s_w_H, trivial⟩
  replace b_e := b_e.keep ff ⟨s_e_H, trivial⟩
  replace fr := rx_frt fr ff (fun a ha => ⟨ha.2.1, trivial⟩)
  rw [if_pos hz0_y1] at hF
  refine rx_aload_n C dX8_liftRoyalCoin_9 0 rfl ?_
  refine rx_getf C f_X8_31 dX8_liftRoyalCoin_10 b_B rfl ?_
  refine rx_iload_n C dX8_liftRoyalCoin_13 1 rfl ?_
  refine rx_iload_n C dX8_liftRoyalCoin_14 2 rfl ?_
  replace hF := rx_biE hF; obtain ⟨y2, e_y2, hF⟩ := hF
  refine rx_ci (rx_rVN C (w_X2_lift e_y2 b_p b_s (by omega)) Y_X2_lift V_X2_lift m_X8_314 (Or.inl ⟨_, _, _, _, b_p.1, rfl⟩) ⟨⟨rfl, rfl⟩, ⟨(Nat.le_of_ble_eq_true rfl), (Nat.le_of_ble_eq_true rfl)⟩, ⟨(Nat.le_of_ble_eq_true rfl), (Nat.le_of_ble_eq_true rfl)⟩⟩ rfl rfl (Nat.le_of_ble_eq_true rfl) dX8_liftRoyalCoin_15) (fun r hh n1 hpp => ?_)
  obtain ⟨rfl, hn, c_p, ff⟩ := hpp
  replace hn : n = n1 := Eq.symm hn
  subst hn
  replace b_p : bP k (b + 21) (b + 12) y2.2 hh := c_p
  clear c_p
  replace ff : rx_fr [(b + 21, 10)] _ hh := ff
  replace b_B := b_B.keep ff ⟨s_B_p, trivial⟩
  replace b_s := b_s.keep ff ⟨s_s_p, trivial⟩
  replace b_w := b_w.keep ff ⟨s_w_p, trivial⟩
  replace b_e := b_e.keep ff ⟨s_e_p, trivial⟩
  replace b_H := b_H.keep ff ⟨s_H_p, trivial⟩
  replace fr := rx_frt fr ff (fun a ha => ⟨ha.1, trivial⟩)
  obtain rfl := Option.some.inj hF
  exact rx_xret (rx_iret C dX8_liftRoyalCoin_18 (Nat.le_of_ble_eq_true rfl) (Nat.le_of_ble_eq_true rfl) ⟨rfl, rfl, rfl, b_p, b_H, fr⟩)
def F_X8_swapRags (oB : ob) (os : ob) (op : ob) (ow : ob) (oe : ob) (oH : hst) (x1 : Int32) (x2 : Int32) : Option (Int32 × Int32 × ob × hst) := (F_X8_allow oB os op ow oe oH 4 x1 x2).bind fun y1 => if y1.1 = (0 : Int32) then ((F_X2_swap op x1 x2).bind fun y2 => some ((0 : Int32), y2.1, y2.2, y1.2)) else (some (y1.1, (0 : Int32), op, oH))
set_option maxRecDepth 100000 in
set_option maxHeartbeats 4000000 in
theorem w_X8_swapRags {b : Nat} {oB : ob} {os : ob} {op : ob} {ow : ob} {oe : ob} {oH : hst} {x1 : Int32} {x2 : Int32} {y : Int32 × Int32 × ob × hst} (hst : l.stackTraces = false) (hF : F_X8_swapRags oB os op ow oe oH x1 x2 = some y) (b_B : bB k b oB h) (b_s : bS k (b + 12) os h) (b_p : bP k (b + 21) (b + 12) op h) (b_w : bQ k (b + 21 + 10) ow h) (b_e : bQ k (b + 21 + 13) oe h) (b_H : bHH k (b + 69) (b + 12) oH h) : vx_Met l yX8_swapRags (rx_ws yX8_swapRags cX8_swapRags 3 (some .int)) (rx_rmX 7 149 1 6) (va_Pc [.ref b, .int x1, .int x2] (rx_G G k h n)) (va_Qi (fun r u => y.1 = 0 ∧ y.2.1 = r ∧ u.2 = n ∧ bP k (b + 21) (b + 12) y.2.2.1 u.1 ∧ bHH k (b + 69) (b + 12) y.2.2.2 u.1 ∧ rx_fr [(b + 21, 10), (b + 69, 130)] h u.1) (rx_B G k) (rx_A k)) (rx_XC G k (fun E u => ¬ y.1 = 0 ∧ E = rx_ex y.1 ∧ u.1 = h ∧ n ≤ u.2)) 1 6 (rx_A k) := by
  have s_B_H : b + 1 ≤ b + 69 ∨ b + 69 + 130 ≤ b := by omega
  have s_s_H : b + 12 + 9 ≤ b + 69 ∨ b + 69 + 130 ≤ b + 12 := by omega
  have s_p_H : b + 21 + 10 ≤ b + 69 ∨ b + 69 + 130 ≤ b + 21 := by omega
  have s_w_H : b + 21 + 10 + 3 ≤ b + 69 ∨ b + 69 + 130 ≤ b + 21 + 10 := by omega
  have s_e_H : b + 21 + 13 + 3 ≤ b + 69 ∨ b + 69 + 130 ≤ b + 21 + 13 := by omega
  have s_B_p : b + 1 ≤ b + 21 ∨ b + 21 + 10 ≤ b := by omega
  have s_s_p : b + 12 + 9 ≤ b + 21 ∨ b + 21 + 10 ≤ b + 12 := by omega
  have s_w_p : b + 21 + 10 + 3 ≤ b + 21 ∨ b + 21 + 10 ≤ b + 21 + 10 := by omega
  have s_e_p : b + 21 + 13 + 3 ≤ b + 21 ∨ b + 21 + 10 ≤ b + 21 + 13 := by omega
  have s_H_p : b + 69 + 130 ≤ b + 21 ∨ b + 21 + 10 ≤ b + 69 := by omega
  refine rx_startX [(0, .ref b), (1, .int x1), (2, .int x2)] rfl (Nat.le_of_ble_eq_true rfl) (by decide) (fun P9 E9 S9 M9 A9 B9 me9 c9 C hno => ?_)
  unfold F_X8_swapRags at hF
  have fr : rx_fr [(b + 21, 10), (b + 69, 130)] h h := rx_fr0
  refine rx_aload_n C dX8_swapRags_0 0 rfl ?_
  refine rx_gets C (C.2.2.2.2.2.2.2.2.2.1 4 (by decide)).1 sf_X8_317 dX8_swapRags_1 ?_
  refine rx_iload_n C dX8_swapRags_4 1 rfl ?_
  refine rx_iload_n C dX8_swapRags_5 2 rfl ?_
  replace hF := rx_biE hF; obtain ⟨y1, e_y1, hF⟩ := hF
  refine rx_xcv (rx_rVX C (w_X8_allow hst e_y1 b_B b_s b_p b_w b_e b_H (by decide)) Y_X8_allow V_X8_allow m_X8_292 (Or.inl ⟨_, _, _, _, b_B, rfl⟩) ⟨⟨rfl, rfl⟩, ⟨(Nat.le_of_ble_eq_true rfl), (Nat.le_of_ble_eq_true rfl)⟩, ⟨(Nat.le_of_ble_eq_true rfl), (Nat.le_of_ble_eq_true rfl)⟩⟩ rfl rfl (Nat.le_of_ble_eq_true rfl) dX8_swapRags_6) (fun E hh n1 hx => ?_) (fun hh n1 hpp => ?_)
  · obtain ⟨hx0, hx1, hx2, hx3⟩ := hx
    rw [if_neg hx0] at hF
    obtain rfl := Option.some.inj hF
    subst hx1
    replace hx2 : hh = h := hx2
    subst hx2
    exact rx_xout C hno (Nat.le_of_ble_eq_true rfl) (Nat.le_of_ble_eq_true rfl) ⟨hx0, rfl, rfl, hx3⟩
  obtain ⟨hz0_y1, hn, c_H, ff⟩ := hpp
  replace hn : n = n1 := Eq.symm hn
  subst hn
  replace b_H : bHH k (b + 69) (b + 12) y1.2 hh := c_H
  clear c_H
  replace ff : rx_fr [(b + 69, 130)] _ hh := ff
  replace b_B := b_B.keep ff ⟨s_B_H, trivial⟩
  replace b_s := b_s.keep ff ⟨s_s_H, trivial⟩
  replace b_p := b_p.keep ff ⟨s_p_H, trivial⟩
  replace b_w := b_w.keep ff ⟨s_w_H, trivial⟩
  replace b_e := b_e.keep ff ⟨s_e_H, trivial⟩
  replace fr := rx_frt fr ff (fun a ha => ⟨ha.2.1, trivial⟩)
  rw [if_pos hz0_y1] at hF
  refine rx_aload_n C dX8_swapRags_9 0 rfl ?_
  refine rx_getf C f_X8_31 dX8_swapRags_10 b_B rfl ?_
  refine rx_iload_n C dX8_swapRags_13 1 rfl ?_
  refine rx_iload_n C dX8_swapRags_14 2 rfl ?_
  replace hF := rx_biE hF; obtain ⟨y2, e_y2, hF⟩ := hF
  refine rx_ci (rx_rVN C (w_X2_swap e_y2 b_p) Y_X2_swap V_X2_swap m_X8_320 (Or.inl ⟨_, _, _, _, b_p.1, rfl⟩) ⟨⟨rfl, rfl⟩, ⟨(Nat.le_of_ble_eq_true rfl), (Nat.le_of_ble_eq_true rfl)⟩, ⟨(Nat.le_of_ble_eq_true rfl), (Nat.le_of_ble_eq_true rfl)⟩⟩ rfl rfl (Nat.le_of_ble_eq_true rfl) dX8_swapRags_15) (fun r hh n1 hpp => ?_)
  obtain ⟨rfl, hn, c_p, ff⟩ := hpp
  replace hn : n = n1 := Eq.symm hn
  subst hn
  replace b_p : bP k (b + 21) (b + 12) y2.2 hh := c_p
  clear c_p
  replace ff : rx_fr [(b + 21, 10)] _ hh := ff
  replace b_B := b_B.keep ff ⟨s_B_p, trivial⟩
  replace b_s := b_s.keep ff ⟨s_s_p, trivial⟩
  replace b_w := b_w.keep ff ⟨s_w_p, trivial⟩
  replace b_e := b_e.keep ff ⟨s_e_p, trivial⟩
  replace b_H := b_H.keep ff ⟨s_H_p, trivial⟩
  replace fr := rx_frt fr ff (fun a ha => ⟨ha.1, trivial⟩)
  obtain rfl := Option.some.inj hF
  exact rx_xret (rx_iret C dX8_swapRags_18 (Nat.le_of_ble_eq_true rfl) (Nat.le_of_ble_eq_true rfl) ⟨rfl, rfl, rfl, b_p, b_H, fr⟩)
def F_X8_joinQueue (oB : ob) (os : ob) (op : ob) (ow : ob) (oe : ob) (oH : hst) (x1 : Int32) (x2 : Int32) : Option (Int32 × Int32 × ob × ob × hst) := (F_X8_allow oB os op ow oe oH 5 x1 x2).bind fun y1 => if y1.1 = (0 : Int32) then ((F_X2_join op ow oe x1 x2).bind fun y2 => some ((0 : Int32), y2.1, y2.2.1, y2.2.2, y1.2)) else (some (y1.1, (0 : Int32), ow, oe, oH))
set_option maxRecDepth 100000 in
set_option maxHeartbeats 4000000 in
theorem w_X8_joinQueue {b : Nat} {oB : ob} {os : ob} {op : ob} {ow : ob} {oe : ob} {oH : hst} {x1 : Int32} {x2 : Int32} {y : Int32 × Int32 × ob × ob × hst} (hst : l.stackTraces = false) (hF : F_X8_joinQueue oB os op ow oe oH x1 x2 = some y) (b_B : bB k b oB h) (b_s : bS k (b + 12) os h) (b_p : bP k (b + 21) (b + 12) op h) (b_w : bQ k (b + 21 + 10) ow h) (b_e : bQ k (b + 21 + 13) oe h) (b_H : bHH k (b + 69) (b + 12) oH h) : vx_Met l yX8_joinQueue (rx_ws yX8_joinQueue cX8_joinQueue 3 (some .int)) (rx_rmX 7 149 1 6) (va_Pc [.ref b, .int x1, .int x2] (rx_G G k h n)) (va_Qi (fun r u => y.1 = 0 ∧ y.2.1 = r ∧ u.2 = n ∧ bQ k (b + 21 + 10) y.2.2.1 u.1 ∧ bQ k (b + 21 + 13) y.2.2.2.1 u.1 ∧ bHH k (b + 69) (b + 12) y.2.2.2.2 u.1 ∧ rx_fr [(b + 21 + 10, 3), (b + 21 + 13, 3), (b + 69, 130)] h u.1) (rx_B G k) (rx_A k)) (rx_XC G k (fun E u => ¬ y.1 = 0 ∧ E = rx_ex y.1 ∧ u.1 = h ∧ n ≤ u.2)) 1 6 (rx_A k) := by
  have s_B_H : b + 1 ≤ b + 69 ∨ b + 69 + 130 ≤ b := by omega
  have s_s_H : b + 12 + 9 ≤ b + 69 ∨ b + 69 + 130 ≤ b + 12 := by omega
  have s_p_H : b + 21 + 10 ≤ b + 69 ∨ b + 69 + 130 ≤ b + 21 := by omega
  have s_w_H : b + 21 + 10 + 3 ≤ b + 69 ∨ b + 69 + 130 ≤ b + 21 + 10 := by omega
  have s_e_H : b + 21 + 13 + 3 ≤ b + 69 ∨ b + 69 + 130 ≤ b + 21 + 13 := by omega
  have s_B_w : b + 1 ≤ b + 21 + 10 ∨ b + 21 + 10 + 3 ≤ b := by omega
  have s_B_e : b + 1 ≤ b + 21 + 13 ∨ b + 21 + 13 + 3 ≤ b := by omega
  have s_s_w : b + 12 + 9 ≤ b + 21 + 10 ∨ b + 21 + 10 + 3 ≤ b + 12 := by omega
  have s_s_e : b + 12 + 9 ≤ b + 21 + 13 ∨ b + 21 + 13 + 3 ≤ b + 12 := by omega
  have s_p_w : b + 21 + 10 ≤ b + 21 + 10 ∨ b + 21 + 10 + 3 ≤ b + 21 := by omega
  have s_p_e : b + 21 + 10 ≤ b + 21 + 13 ∨ b + 21 + 13 + 3 ≤ b + 21 := by omega
  have s_H_w : b + 69 + 130 ≤ b + 21 + 10 ∨ b + 21 + 10 + 3 ≤ b + 69 := by omega
  have s_H_e : b + 69 + 130 ≤ b + 21 + 13 ∨ b + 21 + 13 + 3 ≤ b + 69 := by omega
  refine rx_startX [(0, .ref b), (1, .int x1), (2, .int x2)] rfl (Nat.le_of_ble_eq_true rfl) (by decide) (fun P9 E9 S9 M9 A9 B9 me9 c9 C hno => ?_)
  unfold F_X8_joinQueue at hF
  have fr : rx_fr [(b + 21 + 10, 3), (b + 21 + 13, 3), (b + 69, 130)] h h := rx_fr0
  refine rx_aload_n C dX8_joinQueue_0 0 rfl ?_
  refine rx_gets C (C.2.2.2.2.2.2.2.2.2.1 5 (by decide)).1 sf_X8_323 dX8_joinQueue_1 ?_
  refine rx_iload_n C dX8_joinQueue_4 1 rfl ?_
  refine rx_iload_n C dX8_joinQueue_5 2 rfl ?_
  replace hF := rx_biE hF; obtain ⟨y1, e_y1, hF⟩ := hF
  refine rx_xcv (rx_rVX C (w_X8_allow hst e_y1 b_B b_s b_p b_w b_e b_H (by decide)) Y_X8_allow V_X8_allow m_X8_292 (Or.inl ⟨_, _, _, _, b_B, rfl⟩) ⟨⟨rfl, rfl⟩, ⟨(Nat.le_of_ble_eq_true rfl), (Nat.le_of_ble_eq_true rfl)⟩, ⟨(Nat.le_of_ble_eq_true rfl), (Nat.le_of_ble_eq_true rfl)⟩⟩ rfl rfl (Nat.le_of_ble_eq_true rfl) dX8_joinQueue_6) (fun E hh n1 hx => ?_) (fun hh n1 hpp => ?_)
  · obtain ⟨hx0, hx1, hx2, hx3⟩ := hx
    rw [if_neg hx0] at hF
    obtain rfl := Option.some.inj hF
    subst hx1
    replace hx2 : hh = h := hx2
    subst hx2
    exact rx_xout C hno (Nat.le_of_ble_eq_true rfl) (Nat.le_of_ble_eq_true rfl) ⟨hx0, rfl, rfl, hx3⟩
  obtain ⟨hz0_y1, hn, c_H, ff⟩ := hpp
  replace hn : n = n1 := Eq.symm hn
  subst hn
  replace b_H : bHH k (b + 69) (b + 12) y1.2 hh := c_H
  clear c_H
  replace ff : rx_fr [(b + 69, 130)] _ hh := ff
  replace b_B := b_B.keep ff ⟨s_B_H, trivial⟩
  replace b_s := b_s.keep ff ⟨s_s_H, trivial⟩
  replace b_p := b_p.keep ff ⟨s_p_H, trivial⟩
  replace b_w := b_w.keep ff ⟨s_w_H, trivial⟩
  replace b_e := b_e.keep ff ⟨s_e_H, trivial⟩
  replace fr := rx_frt fr ff (fun a ha => ⟨ha.2.2.1, trivial⟩)
  rw [if_pos hz0_y1] at hF
  refine rx_aload_n C dX8_joinQueue_9 0 rfl ?_
  refine rx_getf C f_X8_31 dX8_joinQueue_10 b_B rfl ?_
  refine rx_iload_n C dX8_joinQueue_13 1 rfl ?_
  refine rx_iload_n C dX8_joinQueue_14 2 rfl ?_
  replace hF := rx_biE hF; obtain ⟨y2, e_y2, hF⟩ := hF
  refine rx_ci (rx_rVN C (w_X2_join e_y2 b_p b_w b_e) Y_X2_join V_X2_join m_X8_326 (Or.inl ⟨_, _, _, _, b_p.1, rfl⟩) ⟨⟨rfl, rfl⟩, ⟨(Nat.le_of_ble_eq_true rfl), (Nat.le_of_ble_eq_true rfl)⟩, ⟨(Nat.le_of_ble_eq_true rfl), (Nat.le_of_ble_eq_true rfl)⟩⟩ rfl rfl (Nat.le_of_ble_eq_true rfl) dX8_joinQueue_15) (fun r hh n1 hpp => ?_)
  obtain ⟨rfl, hn, c_w, c_e, ff⟩ := hpp
  replace hn : n = n1 := Eq.symm hn
  subst hn
  replace b_w : bQ k (b + 21 + 10) y2.2.1 hh := c_w
  clear c_w
  replace b_e : bQ k (b + 21 + 13) y2.2.2 hh := c_e
  clear c_e
  replace ff : rx_fr [(b + 21 + 10, 3), (b + 21 + 13, 3)] _ hh := ff
  replace b_B := b_B.keep ff ⟨s_B_w, s_B_e, trivial⟩
  replace b_s := b_s.keep ff ⟨s_s_w, s_s_e, trivial⟩
  replace b_p := b_p.keep ff ⟨s_p_w, s_p_e, trivial⟩
  replace b_H := b_H.keep ff ⟨s_H_w, s_H_e, trivial⟩
  replace fr := rx_frt fr ff (fun a ha => ⟨ha.1, ha.2.1, trivial⟩)
  obtain rfl := Option.some.inj hF
  exact rx_xret (rx_iret C dX8_joinQueue_18 (Nat.le_of_ble_eq_true rfl) (Nat.le_of_ble_eq_true rfl) ⟨rfl, rfl, rfl, b_w, b_e, b_H, fr⟩)
def F_X8_quitQueue (oB : ob) (os : ob) (op : ob) (ow : ob) (oe : ob) (oH : hst) (x1 : Int32) : Option (Int32 × Int32 × ob × ob × hst) := (F_X8_allow oB os op ow oe oH 6 x1 ((0 : Int32))).bind fun y1 => if y1.1 = (0 : Int32) then ((F_X2_quit op ow oe x1).bind fun y2 => some ((0 : Int32), y2.1, y2.2.1, y2.2.2, y1.2)) else (some (y1.1, (0 : Int32), ow, oe, oH))
set_option maxRecDepth 100000 in
set_option maxHeartbeats 4000000 in
theorem w_X8_quitQueue {b : Nat} {oB : ob} {os : ob} {op : ob} {ow : ob} {oe : ob} {oH : hst} {x1 : Int32} {y : Int32 × Int32 × ob × ob × hst} (hst : l.stackTraces = false) (hF : F_X8_quitQueue oB os op ow oe oH x1 = some y) (b_B : bB k b oB h) (b_s : bS k (b + 12) os h) (b_p : bP k (b + 21) (b + 12) op h) (b_w : bQ k (b + 21 + 10) ow h) (b_e : bQ k (b + 21 + 13) oe h) (b_H : bHH k (b + 69) (b + 12) oH h) : vx_Met l yX8_quitQueue (rx_ws yX8_quitQueue cX8_quitQueue 2 (some .int)) (rx_rmX 7 149 1 6) (va_Pc [.ref b, .int x1] (rx_G G k h n)) (va_Qi (fun r u => y.1 = 0 ∧ y.2.1 = r ∧ u.2 = n ∧ bQ k (b + 21 + 10) y.2.2.1 u.1 ∧ bQ k (b + 21 + 13) y.2.2.2.1 u.1 ∧ bHH k (b + 69) (b + 12) y.2.2.2.2 u.1 ∧ rx_fr [(b + 21 + 10, 3), (b + 21 + 13, 3), (b + 69, 130)] h u.1) (rx_B G k) (rx_A k)) (rx_XC G k (fun E u => ¬ y.1 = 0 ∧ E = rx_ex y.1 ∧ u.1 = h ∧ n ≤ u.2)) 1 6 (rx_A k) := by
  have s_B_H : b + 1 ≤ b + 69 ∨ b + 69 + 130 ≤ b := by omega
  have s_s_H : b + 12 + 9 ≤ b + 69 ∨ b + 69 + 130 ≤ b + 12 := by omega
  have s_p_H : b + 21 + 10 ≤ b + 69 ∨ b + 69 + 130 ≤ b + 21 := by omega
  have s_w_H : b + 21 + 10 + 3 ≤ b + 69 ∨ b + 69 + 130 ≤ b + 21 + 10 := by omega
  have s_e_H : b + 21 + 13 + 3 ≤ b + 69 ∨ b + 69 + 130 ≤ b + 21 + 13 := by omega
  have s_B_w : b + 1 ≤ b + 21 + 10 ∨ b + 21 + 10 + 3 ≤ b := by omega
  have s_B_e : b + 1 ≤ b + 21 + 13 ∨ b + 21 + 13 + 3 ≤ b := by omega
  have s_s_w : b + 12 + 9 ≤ b + 21 + 10 ∨ b + 21 + 10 + 3 ≤ b + 12 := by omega
  have s_s_e : b + 12 + 9 ≤ b + 21 + 13 ∨ b + 21 + 13 + 3 ≤ b + 12 := by omega
  have s_p_w : b + 21 + 10 ≤ b + 21 + 10 ∨ b + 21 + 10 + 3 ≤ b + 21 := by omega
  have s_p_e : b + 21 + 10 ≤ b + 21 + 13 ∨ b + 21 + 13 + 3 ≤ b + 21 := by omega
  have s_H_w : b + 69 + 130 ≤ b + 21 + 10 ∨ b + 21 + 10 + 3 ≤ b + 69 := by omega
  have s_H_e : b + 69 + 130 ≤ b + 21 + 13 ∨ b + 21 + 13 + 3 ≤ b + 69 := by omega
  refine rx_startX [(0, .ref b), (1, .int x1)] rfl (Nat.le_of_ble_eq_true rfl) (by decide) (fun P9 E9 S9 M9 A9 B9 me9 c9 C hno => ?_)
  unfold F_X8_quitQueue at hF
  have fr : rx_fr [(b + 21 + 10, 3), (b + 21 + 13, 3), (b + 69, 130)] h h := rx_fr0
  refine rx_aload_n C dX8_quitQueue_0 0 rfl ?_
  refine rx_gets C (C.2.2.2.2.2.2.2.2.2.1 6 (by decide)).1 sf_X8_329 dX8_quitQueue_1 ?_
  refine rx_iload_n C dX8_quitQueue_4 1 rfl ?_
  refine rx_iconst C dX8_quitQueue_5 (0 : Int32) (by decide) ?_
  replace hF := rx_biE hF; obtain ⟨y1, e_y1, hF⟩ := hF
  refine rx_xcv (rx_rVX C (w_X8_allow hst e_y1 b_B b_s b_p b_w b_e b_H (by decide)) Y_X8_allow V_X8_allow m_X8_292 (Or.inl ⟨_, _, _, _, b_B, rfl⟩) ⟨⟨rfl, rfl⟩, ⟨(Nat.le_of_ble_eq_true rfl), (Nat.le_of_ble_eq_true rfl)⟩, ⟨(Nat.le_of_ble_eq_true rfl), (Nat.le_of_ble_eq_true rfl)⟩⟩ rfl rfl (Nat.le_of_ble_eq_true rfl) dX8_quitQueue_6) (fun E hh n1 hx => ?_) (fun hh n1 hpp => ?_)
  · obtain ⟨hx0, hx1, hx2, hx3⟩ := hx
    rw [if_neg hx0] at hF
    obtain rfl := Option.some.inj hF
    subst hx1
    replace hx2 : hh = h := hx2
    subst hx2
    exact rx_xout C hno (Nat.le_of_ble_eq_true rfl) (Nat.le_of_ble_eq_true rfl) ⟨hx0, rfl, rfl, hx3⟩
  obtain ⟨hz0_y1, hn, c_H, ff⟩ := hpp
  replace hn : n = n1 := Eq.symm hn
  subst hn
  replace b_H : bHH k (b + 69) (b + 12) y1.2 hh := c_H
  clear c_H
  replace ff : rx_fr [(b + 69, 130)] _ hh := ff
  replace b_B := b_B.keep ff ⟨s_B_H, trivial⟩
  replace b_s := b_s.keep ff ⟨s_s_H, trivial⟩
  replace b_p := b_p.keep ff ⟨s_p_H, trivial⟩
  replace b_w := b_w.keep ff ⟨s_w_H, trivial⟩
  replace b_e := b_e.keep ff ⟨s_e_H, trivial⟩
  replace fr := rx_frt fr ff (fun a ha => ⟨ha.2.2.1, trivial⟩)
  rw [if_pos hz0_y1] at hF
  refine rx_aload_n C dX8_quitQueue_9 0 rfl ?_
  refine rx_getf C f_X8_31 dX8_quitQueue_10 b_B rfl ?_
  refine rx_iload_n C dX8_quitQueue_13 1 rfl ?_
  replace hF := rx_biE hF; obtain ⟨y2, e_y2, hF⟩ := hF
  refine rx_ci (rx_rVN C (w_X2_quit e_y2 b_p b_w b_e) Y_X2_quit V_X2_quit m_X8_332 (Or.inl ⟨_, _, _, _, b_p.1, rfl⟩) ⟨⟨rfl, rfl⟩, ⟨(Nat.le_of_ble_eq_true rfl), (Nat.le_of_ble_eq_true rfl)⟩, ⟨(Nat.le_of_ble_eq_true rfl), (Nat.le_of_ble_eq_true rfl)⟩⟩ rfl rfl (Nat.le_of_ble_eq_true rfl) dX8_quitQueue_14) (fun r hh n1 hpp => ?_)
  obtain ⟨rfl, hn, c_w, c_e, ff⟩ := hpp
  replace hn : n = n1 := Eq.symm hn
  subst hn
  replace b_w : bQ k (b + 21 + 10) y2.2.1 hh := c_w
  clear c_w
  replace b_e : bQ k (b + 21 + 13) y2.2.2 hh := c_e
  clear c_e
  replace ff : rx_fr [(b + 21 + 10, 3), (b + 21 + 13, 3)] _ hh := ff
  replace b_B := b_B.keep ff ⟨s_B_w, s_B_e, trivial⟩
  replace b_s := b_s.keep ff ⟨s_s_w, s_s_e, trivial⟩
  replace b_p := b_p.keep ff ⟨s_p_w, s_p_e, trivial⟩
  replace b_H := b_H.keep ff ⟨s_H_w, s_H_e, trivial⟩
  replace fr := rx_frt fr ff (fun a ha => ⟨ha.1, ha.2.1, trivial⟩)
  obtain rfl := Option.some.inj hF
  exact rx_xret (rx_iret C dX8_quitQueue_17 (Nat.le_of_ble_eq_true rfl) (Nat.le_of_ble_eq_true rfl) ⟨rfl, rfl, rfl, b_w, b_e, b_H, fr⟩)
def F_X8_setPride (oB : ob) (os : ob) (op : ob) (ow : ob) (oe : ob) (oH : hst) (x1 : Int32) (x2 : Int32) : Option (Int32 × Int32 × ob × hst) := (F_X8_allow oB os op ow oe oH 7 x1 x2).bind fun y1 => if y1.1 = (0 : Int32) then ((F_X2_changePride op x1 x2).bind fun y2 => some ((0 : Int32), y2.1, y2.2, y1.2)) else (some (y1.1, (0 : Int32), op, oH))
set_option maxRecDepth 100000 in
set_option maxHeartbeats 4000000 in
theorem w_X8_setPride {b : Nat} {oB : ob} {os : ob} {op : ob} {ow : ob} {oe : ob} {oH : hst} {x1 : Int32} {x2 : Int32} {y : Int32 × Int32 × ob × hst} (hst : l.stackTraces = false) (hF : F_X8_setPride oB os op ow oe oH x1 x2 = some y) (b_B : bB k b oB h) (b_s : bS k (b + 12) os h) (b_p : bP k (b + 21) (b + 12) op h) (b_w : bQ k (b + 21 + 10) ow h) (b_e : bQ k (b + 21 + 13) oe h) (b_H : bHH k (b + 69) (b + 12) oH h) : vx_Met l yX8_setPride (rx_ws yX8_setPride cX8_setPride 3 (some .int)) (rx_rmX 7 149 1 6) (va_Pc [.ref b, .int x1, .int x2] (rx_G G k h n)) (va_Qi (fun r u => y.1 = 0 ∧ y.2.1 = r ∧ u.2 = n ∧ bP k (b + 21) (b + 12) y.2.2.1 u.1 ∧ bHH k (b + 69) (b + 12) y.2.2.2 u.1 ∧ rx_fr [(b + 21, 10), (b + 69, 130)] h u.1) (rx_B G k) (rx_A k)) (rx_XC G k (fun E u => ¬ y.1 = 0 ∧ E = rx_ex y.1 ∧ u.1 = h ∧ n ≤ u.2)) 1 6 (rx_A k) := by
  have s_B_H : b + 1 ≤ b + 69 ∨ b + 69 + 130 ≤ b := by omega
  have s_s_H : b + 12 + 9 ≤ b + 69 ∨ b + 69 + 130 ≤ b + 12 := by omega
  have s_p_H : b + 21 + 10 ≤ b + 69 ∨ b + 69 + 130 ≤ b + 21 := by omega
  have s_w_H : b + 21 + 10 + 3 ≤ b + 69 ∨ b + 69 + 130 ≤ b + 21 + 10 := by omega
  have s_e_H : b + 21 + 13 + 3 ≤ b + 69 ∨ b + 69 + 130 ≤ b + 21 + 13 := by omega
  have s_B_p : b + 1 ≤ b + 21 ∨ b + 21 + 10 ≤ b := by omega
  have s_s_p : b + 12 + 9 ≤ b + 21 ∨ b + 21 + 10 ≤ b + 12 := by omega
  have s_w_p : b + 21 + 10 + 3 ≤ b + 21 ∨ b + 21 + 10 ≤ b + 21 + 10 := by omega
  have s_e_p : b + 21 + 13 + 3 ≤ b + 21 ∨ b + 21 + 10 ≤ b + 21 + 13 := by omega
  have s_H_p : b + 69 + 130 ≤ b + 21 ∨ b + 21 + 10 ≤ b + 69 := by omega
  refine rx_startX [(0, .ref b), (1, .int x1), (2, .int x2)] rfl (Nat.le_of_ble_eq_true rfl) (by decide) (fun P9 E9 S9 M9 A9 B9 me9 c9 C hno => ?_)
  unfold F_X8_setPride at hF
  have fr : rx_fr [(b + 21, 10), (b + 69, 130)] h h := rx_fr0
  refine rx_aload_n C dX8_setPride_0 0 rfl ?_
  refine rx_gets C (C.2.2.2.2.2.2.2.2.2.1 7 (by decide)).1 sf_X8_335 dX8_setPride_1 ?_
  refine rx_iload_n C dX8_setPride_4 1 rfl ?_
  refine rx_iload_n C dX8_setPride_5 2 rfl ?_
  replace hF := rx_biE hF; obtain ⟨y1, e_y1, hF⟩ := hF
  refine rx_xcv (rx_rVX C (w_X8_allow hst e_y1 b_B b_s b_p b_w b_e b_H (by decide)) Y_X8_allow V_X8_allow m_X8_292 (Or.inl ⟨_, _, _, _, b_B, rfl⟩) ⟨⟨rfl, rfl⟩, ⟨(Nat.le_of_ble_eq_true rfl), (Nat.le_of_ble_eq_true rfl)⟩, ⟨(Nat.le_of_ble_eq_true rfl), (Nat.le_of_ble_eq_true rfl)⟩⟩ rfl rfl (Nat.le_of_ble_eq_true rfl) dX8_setPride_6) (fun E hh n1 hx => ?_) (fun hh n1 hpp => ?_)
  · obtain ⟨hx0, hx1, hx2, hx3⟩ := hx
    rw [if_neg hx0] at hF
    obtain rfl := Option.some.inj hF
    subst hx1
    replace hx2 : hh = h := hx2
    subst hx2
    exact rx_xout C hno (Nat.le_of_ble_eq_true rfl) (Nat.le_of_ble_eq_true rfl) ⟨hx0, rfl, rfl, hx3⟩
  obtain ⟨hz0_y1, hn, c_H, ff⟩ := hpp
  replace hn : n = n1 := Eq.symm hn
  subst hn
  replace b_H : bHH k (b + 69) (b + 12) y1.2 hh := c_H
  clear c_H
  replace ff : rx_fr [(b + 69, 130)] _ hh := ff
  replace b_B := b_B.keep ff ⟨s_B_H, trivial⟩
  replace b_s := b_s.keep ff ⟨s_s_H, trivial⟩
  replace b_p := b_p.keep ff ⟨s_p_H, trivial⟩
  replace b_w := b_w.keep ff ⟨s_w_H, trivial⟩
  replace b_e := b_e.keep ff ⟨s_e_H, trivial⟩
  replace fr := rx_frt fr ff (fun a ha => ⟨ha.2.1, trivial⟩)
  rw [if_pos hz0_y1] at hF
  refine rx_aload_n C dX8_setPride_9 0 rfl ?_
  refine rx_getf C f_X8_31 dX8_setPride_10 b_B rfl ?_
  refine rx_iload_n C dX8_setPride_13 1 rfl ?_
  refine rx_iload_n C dX8_setPride_14 2 rfl ?_
  replace hF := rx_biE hF; obtain ⟨y2, e_y2, hF⟩ := hF
  refine rx_ci (rx_rVN C (w_X2_changePride e_y2 b_p) Y_X2_changePride V_X2_changePride m_X8_338 (Or.inl ⟨_, _, _, _, b_p.1, rfl⟩) ⟨⟨rfl, rfl⟩, ⟨(Nat.le_of_ble_eq_true rfl), (Nat.le_of_ble_eq_true rfl)⟩, ⟨(Nat.le_of_ble_eq_true rfl), (Nat.le_of_ble_eq_true rfl)⟩⟩ rfl rfl (Nat.le_of_ble_eq_true rfl) dX8_setPride_15) (fun r hh n1 hpp => ?_)
  obtain ⟨rfl, hn, c_p, ff⟩ := hpp
  replace hn : n = n1 := Eq.symm hn
  subst hn
  replace b_p : bP k (b + 21) (b + 12) y2.2 hh := c_p
  clear c_p
  replace ff : rx_fr [(b + 21, 10)] _ hh := ff
  replace b_B := b_B.keep ff ⟨s_B_p, trivial⟩
  replace b_s := b_s.keep ff ⟨s_s_p, trivial⟩
  replace b_w := b_w.keep ff ⟨s_w_p, trivial⟩
  replace b_e := b_e.keep ff ⟨s_e_p, trivial⟩
  replace b_H := b_H.keep ff ⟨s_H_p, trivial⟩
  replace fr := rx_frt fr ff (fun a ha => ⟨ha.1, trivial⟩)
  obtain rfl := Option.some.inj hF
  exact rx_xret (rx_iret C dX8_setPride_18 (Nat.le_of_ble_eq_true rfl) (Nat.le_of_ble_eq_true rfl) ⟨rfl, rfl, rfl, b_p, b_H, fr⟩)
def F_X8_passTurns (oB : ob) (os : ob) (op : ob) (ow : ob) (oe : ob) (oH : hst) (x1 : Int32) : Option (Int32 × Int32 × ob × ob × ob × hst) := (F_X8_allow oB os op ow oe oH 8 x1 ((0 : Int32))).bind fun y1 => if y1.1 = (0 : Int32) then ((F_X2_passSeveral op ow oe os x1).bind fun y2 => some ((0 : Int32), y2.1, y2.2.1, y2.2.2.1, y2.2.2.2, y1.2)) else (some (y1.1, (0 : Int32), op, ow, oe, oH))
set_option maxRecDepth 100000 in
set_option maxHeartbeats 4000000 in
theorem w_X8_passTurns {b : Nat} {oB : ob} {os : ob} {op : ob} {ow : ob} {oe : ob} {oH : hst} {x1 : Int32} {y : Int32 × Int32 × ob × ob × ob × hst} (hst : l.stackTraces = false) (hF : F_X8_passTurns oB os op ow oe oH x1 = some y) (b_B : bB k b oB h) (b_s : bS k (b + 12) os h) (b_p : bP k (b + 21) (b + 12) op h) (b_w : bQ k (b + 21 + 10) ow h) (b_e : bQ k (b + 21 + 13) oe h) (b_H : bHH k (b + 69) (b + 12) oH h) : vx_Met l yX8_passTurns (rx_ws yX8_passTurns cX8_passTurns 2 (some .int)) (rx_rmX 7 149 1 6) (va_Pc [.ref b, .int x1] (rx_G G k h n)) (va_Qi (fun r u => y.1 = 0 ∧ y.2.1 = r ∧ u.2 = n ∧ bP k (b + 21) (b + 12) y.2.2.1 u.1 ∧ bQ k (b + 21 + 10) y.2.2.2.1 u.1 ∧ bQ k (b + 21 + 13) y.2.2.2.2.1 u.1 ∧ bHH k (b + 69) (b + 12) y.2.2.2.2.2 u.1 ∧ rx_fr [(b + 21, 10), (b + 21 + 10, 3), (b + 21 + 13, 3), (b + 69, 130)] h u.1) (rx_B G k) (rx_A k)) (rx_XC G k (fun E u => ¬ y.1 = 0 ∧ E = rx_ex y.1 ∧ u.1 = h ∧ n ≤ u.2)) 1 6 (rx_A k) := by
  have s_B_H : b + 1 ≤ b + 69 ∨ b + 69 + 130 ≤ b := by omega
  have s_s_H : b + 12 + 9 ≤ b + 69 ∨ b + 69 + 130 ≤ b + 12 := by omega
  have s_p_H : b + 21 + 10 ≤ b + 69 ∨ b + 69 + 130 ≤ b + 21 := by omega
  have s_w_H : b + 21 + 10 + 3 ≤ b + 69 ∨ b + 69 + 130 ≤ b + 21 + 10 := by omega
  have s_e_H : b + 21 + 13 + 3 ≤ b + 69 ∨ b + 69 + 130 ≤ b + 21 + 13 := by omega
  have s_B_p : b + 1 ≤ b + 21 ∨ b + 21 + 10 ≤ b := by omega
  have s_B_w : b + 1 ≤ b + 21 + 10 ∨ b + 21 + 10 + 3 ≤ b := by omega
  have s_B_e : b + 1 ≤ b + 21 + 13 ∨ b + 21 + 13 + 3 ≤ b := by omega
  have s_s_p : b + 12 + 9 ≤ b + 21 ∨ b + 21 + 10 ≤ b + 12 := by omega
  have s_s_w : b + 12 + 9 ≤ b + 21 + 10 ∨ b + 21 + 10 + 3 ≤ b + 12 := by omega
  have s_s_e : b + 12 + 9 ≤ b + 21 + 13 ∨ b + 21 + 13 + 3 ≤ b + 12 := by omega
  have s_H_p : b + 69 + 130 ≤ b + 21 ∨ b + 21 + 10 ≤ b + 69 := by omega
  have s_H_w : b + 69 + 130 ≤ b + 21 + 10 ∨ b + 21 + 10 + 3 ≤ b + 69 := by omega
  have s_H_e : b + 69 + 130 ≤ b + 21 + 13 ∨ b + 21 + 13 + 3 ≤ b + 69 := by omega
  refine rx_startX [(0, .ref b), (1, .int x1)] rfl (Nat.le_of_ble_eq_true rfl) (by decide) (fun P9 E9 S9 M9 A9 B9 me9 c9 C hno => ?_)
  unfold F_X8_passTurns at hF
  have fr : rx_fr [(b + 21, 10), (b + 21 + 10, 3), (b + 21 + 13, 3), (b + 69, 130)] h h := rx_fr0
  refine rx_aload_n C dX8_passTurns_0 0 rfl ?_
  refine rx_gets C (C.2.2.2.2.2.2.2.2.2.1 8 (by decide)).1 sf_X8_341 dX8_passTurns_1 ?_
  refine rx_iload_n C dX8_passTurns_4 1 rfl ?_
  refine rx_iconst C dX8_passTurns_5 (0 : Int32) (by decide) ?_
  replace hF := rx_biE hF; obtain ⟨y1, e_y1, hF⟩ := hF
  refine rx_xcv (rx_rVX C (w_X8_allow hst e_y1 b_B b_s b_p b_w b_e b_H (by decide)) Y_X8_allow V_X8_allow m_X8_292 (Or.inl ⟨_, _, _, _, b_B, rfl⟩) ⟨⟨rfl, rfl⟩, ⟨(Nat.le_of_ble_eq_true rfl), (Nat.le_of_ble_eq_true rfl)⟩, ⟨(Nat.le_of_ble_eq_true rfl), (Nat.le_of_ble_eq_true rfl)⟩⟩ rfl rfl (Nat.le_of_ble_eq_true rfl) dX8_passTurns_6) (fun E hh n1 hx => ?_) (fun hh n1 hpp => ?_)
  · obtain ⟨hx0, hx1, hx2, hx3⟩ := hx
    rw [if_neg hx0] at hF
    obtain rfl := Option.some.inj hF
    subst hx1
    replace hx2 : hh = h := hx2
    subst hx2
    exact rx_xout C hno (Nat.le_of_ble_eq_true rfl) (Nat.le_of_ble_eq_true rfl) ⟨hx0, rfl, rfl, hx3⟩
  obtain ⟨hz0_y1, hn, c_H, ff⟩ := hpp
  replace hn : n = n1 := Eq.symm hn
  subst hn
  replace b_H : bHH k (b + 69) (b + 12) y1.2 hh := c_H
  clear c_H
  replace ff : rx_fr [(b + 69, 130)] _ hh := ff
  replace b_B := b_B.keep ff ⟨s_B_H, trivial⟩
  replace b_s := b_s.keep ff ⟨s_s_H, trivial⟩
  replace b_p := b_p.keep ff ⟨s_p_H, trivial⟩
  replace b_w := b_w.keep ff ⟨s_w_H, trivial⟩
  replace b_e := b_e.keep ff ⟨s_e_H, trivial⟩
  replace fr := rx_frt fr ff (fun a ha => ⟨ha.2.2.2.1, trivial⟩)
  rw [if_pos hz0_y1] at hF
  refine rx_aload_n C dX8_passTurns_9 0 rfl ?_
  refine rx_getf C f_X8_31 dX8_passTurns_10 b_B rfl ?_
  refine rx_iload_n C dX8_passTurns_13 1 rfl ?_
  replace hF := rx_biE hF; obtain ⟨y2, e_y2, hF⟩ := hF
  refine rx_ci (rx_rVN C (w_X2_passSeveral e_y2 b_p b_w b_e b_s (by omega)) Y_X2_passSeveral V_X2_passSeveral m_X8_344 (Or.inl ⟨_, _, _, _, b_p.1, rfl⟩) ⟨⟨rfl, rfl⟩, ⟨(Nat.le_of_ble_eq_true rfl), (Nat.le_of_ble_eq_true rfl)⟩, ⟨(Nat.le_of_ble_eq_true rfl), (Nat.le_of_ble_eq_true rfl)⟩⟩ rfl rfl (Nat.le_of_ble_eq_true rfl) dX8_passTurns_14) (fun r hh n1 hpp => ?_)
  obtain ⟨rfl, hn, c_p, c_w, c_e, ff⟩ := hpp
  replace hn : n = n1 := Eq.symm hn
  subst hn
  replace b_p : bP k (b + 21) (b + 12) y2.2.1 hh := c_p
  clear c_p
  replace b_w : bQ k (b + 21 + 10) y2.2.2.1 hh := c_w
  clear c_w
  replace b_e : bQ k (b + 21 + 13) y2.2.2.2 hh := c_e
  clear c_e
  replace ff : rx_fr [(b + 21, 10), (b + 21 + 10, 3), (b + 21 + 13, 3)] _ hh := ff
  replace b_B := b_B.keep ff ⟨s_B_p, s_B_w, s_B_e, trivial⟩
  replace b_s := b_s.keep ff ⟨s_s_p, s_s_w, s_s_e, trivial⟩
  replace b_H := b_H.keep ff ⟨s_H_p, s_H_w, s_H_e, trivial⟩
  replace fr := rx_frt fr ff (fun a ha => ⟨ha.1, ha.2.1, ha.2.2.1, trivial⟩)
  obtain rfl := Option.some.inj hF
  exact rx_xret (rx_iret C dX8_passTurns_17 (Nat.le_of_ble_eq_true rfl) (Nat.le_of_ble_eq_true rfl) ⟨rfl, rfl, rfl, b_p, b_w, b_e, b_H, fr⟩)
def F_X8_runScript (oB : ob) (ot : ob) (os : ob) (op : ob) (ow : ob) (oe : ob) (oH : hst) (oc : obv) (x1 : Int32) : Option (Int32 × Int32 × ob × ob × ob × ob × hst × obv) := (F_X8_requireLength oB ot x1).bind fun y1 => if y1 = (0 : Int32) then ((F_X6_open ot x1).bind fun y2 => (F_X4_read oc y2).bind fun y3 => rx_le (upd y3.2.1 1 ((0 : Int32)), y3.2.2) fun o_t_4 => (F_X6_hasFailed o_t_4).bind fun y5 => if y5 = (0 : Int32) then ((F_X1_push oH op ow oe).bind fun y7 => (F_X4_play y3.1 op ow oe os).bind fun y8 => some ((0 : Int32), y8.1, o_t_4, y8.2.1, y8.2.2.1, y8.2.2.2, y7, y3.1)) else (some ((0 : Int32), (-1 : Int32), o_t_4, op, ow, oe, oH, y3.1))) else (some (y1, (0 : Int32), ot, op, ow, oe, oH, oc))
set_option maxRecDepth 100000 in
set_option maxHeartbeats 4000000 in
theorem w_X8_runScript {b : Nat} {oB : ob} {ot : ob} {os : ob} {op : ob} {ow : ob} {oe : ob} {oH : hst} {oc : obv} {x1 : Int32} {y : Int32 × Int32 × ob × ob × ob × ob × hst × obv} (hst : l.stackTraces = false) (hF : F_X8_runScript oB ot os op ow oe oH oc x1 = some y) (b_B : bB k b oB h) (b_t : bT k (b + 1) ot h) (b_s : bS k (b + 12) os h) (b_p : bP k (b + 21) (b + 12) op h) (b_w : bQ k (b + 21 + 10) ow h) (b_e : bQ k (b + 21 + 13) oe h) (b_H : bHH k (b + 69) (b + 12) oH h) (b_c : bC k (b + 199) oc h) : vx_Met l yX8_runScript (rx_ws yX8_runScript cX8_runScript 2 (some .int)) (rx_rmX 8 173 1 6) (va_Pc [.ref b, .int x1] (rx_G G k h n)) (va_Qi (fun r u => y.1 = 0 ∧ y.2.1 = r ∧ u.2 = n ∧ bT k (b + 1) y.2.2.1 u.1 ∧ bP k (b + 21) (b + 12) y.2.2.2.1 u.1 ∧ bQ k (b + 21 + 10) y.2.2.2.2.1 u.1 ∧ bQ k (b + 21 + 13) y.2.2.2.2.2.1 u.1 ∧ bHH k (b + 69) (b + 12) y.2.2.2.2.2.2.1 u.1 ∧ bC k (b + 199) y.2.2.2.2.2.2.2 u.1 ∧ rx_fr [(b + 1, 2), (b + 21, 10), (b + 21 + 10, 3), (b + 21 + 13, 3), (b + 69, 130), (b + 199, 4)] h u.1) (rx_B G k) (rx_A k)) (rx_XC G k (fun E u => ¬ y.1 = 0 ∧ E = rx_ex y.1 ∧ u.1 = h ∧ n ≤ u.2)) 1 6 (rx_A k) := by
  have s_B_t : b + 1 ≤ b + 1 ∨ b + 1 + 2 ≤ b := by omega
  have s_s_t : b + 12 + 9 ≤ b + 1 ∨ b + 1 + 2 ≤ b + 12 := by omega
  have s_p_t : b + 21 + 10 ≤ b + 1 ∨ b + 1 + 2 ≤ b + 21 := by omega
  have s_w_t : b + 21 + 10 + 3 ≤ b + 1 ∨ b + 1 + 2 ≤ b + 21 + 10 := by omega
  have s_e_t : b + 21 + 13 + 3 ≤ b + 1 ∨ b + 1 + 2 ≤ b + 21 + 13 := by omega
  have s_H_t : b + 69 + 130 ≤ b + 1 ∨ b + 1 + 2 ≤ b + 69 := by omega
  have s_c_t : b + 199 + 4 ≤ b + 1 ∨ b + 1 + 2 ≤ b + 199 := by omega
  have s_B_c : b + 1 ≤ b + 199 ∨ b + 199 + 4 ≤ b := by omega
  have s_s_c : b + 12 + 9 ≤ b + 199 ∨ b + 199 + 4 ≤ b + 12 := by omega
  have s_p_c : b + 21 + 10 ≤ b + 199 ∨ b + 199 + 4 ≤ b + 21 := by omega
  have s_w_c : b + 21 + 10 + 3 ≤ b + 199 ∨ b + 199 + 4 ≤ b + 21 + 10 := by omega
  have s_e_c : b + 21 + 13 + 3 ≤ b + 199 ∨ b + 199 + 4 ≤ b + 21 + 13 := by omega
  have s_H_c : b + 69 + 130 ≤ b + 199 ∨ b + 199 + 4 ≤ b + 69 := by omega
  have s_B_H : b + 1 ≤ b + 69 ∨ b + 69 + 130 ≤ b := by omega
  have s_t_H : b + 1 + 2 ≤ b + 69 ∨ b + 69 + 130 ≤ b + 1 := by omega
  have s_s_H : b + 12 + 9 ≤ b + 69 ∨ b + 69 + 130 ≤ b + 12 := by omega
  have s_p_H : b + 21 + 10 ≤ b + 69 ∨ b + 69 + 130 ≤ b + 21 := by omega
  have s_w_H : b + 21 + 10 + 3 ≤ b + 69 ∨ b + 69 + 130 ≤ b + 21 + 10 := by omega
  have s_e_H : b + 21 + 13 + 3 ≤ b + 69 ∨ b + 69 + 130 ≤ b + 21 + 13 := by omega
  have s_c_H : b + 199 + 4 ≤ b + 69 ∨ b + 69 + 130 ≤ b + 199 := by omega
  have s_B_p : b + 1 ≤ b + 21 ∨ b + 21 + 10 ≤ b := by omega
  have s_B_w : b + 1 ≤ b + 21 + 10 ∨ b + 21 + 10 + 3 ≤ b := by omega
  have s_B_e : b + 1 ≤ b + 21 + 13 ∨ b + 21 + 13 + 3 ≤ b := by omega
  have s_t_p : b + 1 + 2 ≤ b + 21 ∨ b + 21 + 10 ≤ b + 1 := by omega
  have s_t_w : b + 1 + 2 ≤ b + 21 + 10 ∨ b + 21 + 10 + 3 ≤ b + 1 := by omega
  have s_t_e : b + 1 + 2 ≤ b + 21 + 13 ∨ b + 21 + 13 + 3 ≤ b + 1 := by omega
  have s_s_p : b + 12 + 9 ≤ b + 21 ∨ b + 21 + 10 ≤ b + 12 := by omega
  have s_s_w : b + 12 + 9 ≤ b + 21 + 10 ∨ b + 21 + 10 + 3 ≤ b + 12 := by omega
  have s_s_e : b + 12 + 9 ≤ b + 21 + 13 ∨ b + 21 + 13 + 3 ≤ b + 12 := by omega
  have s_H_p : b + 69 + 130 ≤ b + 21 ∨ b + 21 + 10 ≤ b + 69 := by omega
  have s_H_w : b + 69 + 130 ≤ b + 21 + 10 ∨ b + 21 + 10 + 3 ≤ b + 69 := by omega
  have s_H_e : b + 69 + 130 ≤ b + 21 + 13 ∨ b + 21 + 13 + 3 ≤ b + 69 := by omega
  have s_c_p : b + 199 + 4 ≤ b + 21 ∨ b + 21 + 10 ≤ b + 199 := by omega
  have s_c_w : b + 199 + 4 ≤ b + 21 + 10 ∨ b + 21 + 10 + 3 ≤ b + 199 := by omega
  have s_c_e : b + 199 + 4 ≤ b + 21 + 13 ∨ b + 21 + 13 + 3 ≤ b + 199 := by omega
  refine rx_startX [(0, .ref b), (1, .int x1)] rfl (Nat.le_of_ble_eq_true rfl) (by decide) (fun P9 E9 S9 M9 A9 B9 me9 c9 C hno => ?_)
  unfold F_X8_runScript at hF
  have fr : rx_fr [(b + 1, 2), (b + 21, 10), (b + 21 + 10, 3), (b + 21 + 13, 3), (b + 69, 130), (b + 199, 4)] h h := rx_fr0
  refine rx_aload_n C dX8_runScript_0 0 rfl ?_
  refine rx_iload_n C dX8_runScript_1 1 rfl ?_
  replace hF := rx_biE hF; obtain ⟨y1, e_y1, hF⟩ := hF
  refine rx_xcv (rx_rVX C (w_X8_requireLength hst e_y1 b_B b_t) Y_X8_requireLength V_X8_requireLength m_X8_81 (Or.inl ⟨_, _, _, _, b_B, rfl⟩) ⟨⟨rfl, rfl⟩, ⟨(Nat.le_of_ble_eq_true rfl), (Nat.le_of_ble_eq_true rfl)⟩, ⟨(Nat.le_of_ble_eq_true rfl), (Nat.le_of_ble_eq_true rfl)⟩⟩ rfl rfl (Nat.le_of_ble_eq_true rfl) dX8_runScript_2) (fun E hh n1 hx => ?_) (fun hh n1 hpp => ?_)
  · obtain ⟨hx0, hx1, hx2, hx3⟩ := hx
    rw [if_neg hx0] at hF
    obtain rfl := Option.some.inj hF
    subst hx1
    replace hx2 : hh = h := hx2
    subst hx2
    exact rx_xout C hno (Nat.le_of_ble_eq_true rfl) (Nat.le_of_ble_eq_true rfl) ⟨hx0, rfl, rfl, hx3⟩
  obtain ⟨hz0_y1, hu⟩ := hpp
  cases hu
  rw [if_pos hz0_y1] at hF
  refine rx_aload_n C dX8_runScript_5 0 rfl ?_
  refine rx_getf C f_X8_10 dX8_runScript_6 b_B rfl ?_
  refine rx_iload_n C dX8_runScript_9 1 rfl ?_
  replace hF := rx_biE hF; obtain ⟨y2, e_y2, hF⟩ := hF
  refine rx_cv (rx_rVN C (w_X6_open e_y2 b_t) Y_X6_open V_X6_open m_X8_84 (Or.inl ⟨_, _, _, _, b_t.1, rfl⟩) ⟨⟨rfl, rfl⟩, ⟨(Nat.le_of_ble_eq_true rfl), (Nat.le_of_ble_eq_true rfl)⟩, ⟨(Nat.le_of_ble_eq_true rfl), (Nat.le_of_ble_eq_true rfl)⟩⟩ rfl rfl (Nat.le_of_ble_eq_true rfl) dX8_runScript_10) (fun hh n1 hpp => ?_)
  obtain ⟨hn, c_t, ff⟩ := hpp
  replace hn : n = n1 := Eq.symm hn
  subst hn
  replace b_t : bT k (b + 1) y2 hh := c_t
  clear c_t
  replace ff : rx_fr [(b + 1, 2)] _ hh := ff
  replace b_B := b_B.keep ff ⟨s_B_t, trivial⟩
  replace b_s := b_s.keep ff ⟨s_s_t, trivial⟩
  replace b_p := b_p.keep ff ⟨s_p_t, trivial⟩
  replace b_w := b_w.keep ff ⟨s_w_t, trivial⟩
  replace b_e := b_e.keep ff ⟨s_e_t, trivial⟩
  replace b_H := b_H.keep ff ⟨s_H_t, trivial⟩
  replace b_c := b_c.keep ff ⟨s_c_t, trivial⟩
  replace fr := rx_frt fr ff (fun a ha => ⟨ha.1, trivial⟩)
  refine rx_aload_n C dX8_runScript_13 0 rfl ?_
  refine rx_getf C f_X8_51 dX8_runScript_14 b_B rfl ?_
  refine rx_aload_n C dX8_runScript_17 0 rfl ?_
  refine rx_getf C f_X8_10 dX8_runScript_18 b_B rfl ?_
  replace hF := rx_biE hF; obtain ⟨y3, e_y3, hF⟩ := hF
  refine rx_cv (rx_rVN C (w_X4_read e_y3 b_c b_t (by omega)) Y_X4_read V_X4_read m_X8_347 (Or.inl ⟨_, _, _, _, b_c.1, rfl⟩) ⟨⟨rfl, rfl⟩, ⟨(Nat.le_of_ble_eq_true rfl), (Nat.le_of_ble_eq_true rfl)⟩, ⟨(Nat.le_of_ble_eq_true rfl), (Nat.le_of_ble_eq_true rfl)⟩⟩ rfl rfl (Nat.le_of_ble_eq_true rfl) dX8_runScript_21) (fun hh n1 hpp => ?_)
  obtain ⟨hn, c_c, c_t, ff⟩ := hpp
  replace hn : n = n1 := Eq.symm hn
  subst hn
  replace b_c : bC k (b + 199) y3.1 hh := c_c
  clear c_c
  replace b_t : bT k (b + 1) y3.2 hh := c_t
  clear c_t
  replace ff : rx_fr [(b + 199, 4), (b + 1, 2)] _ hh := ff
  replace b_B := b_B.keep ff ⟨s_B_c, s_B_t, trivial⟩
  replace b_s := b_s.keep ff ⟨s_s_c, s_s_t, trivial⟩
  replace b_p := b_p.keep ff ⟨s_p_c, s_p_t, trivial⟩
  replace b_w := b_w.keep ff ⟨s_w_c, s_w_t, trivial⟩
  replace b_e := b_e.keep ff ⟨s_e_c, s_e_t, trivial⟩
  replace b_H := b_H.keep ff ⟨s_H_c, s_H_t, trivial⟩
  replace fr := rx_frt fr ff (fun a ha => ⟨ha.2.2.2.2.2.1, ha.1, trivial⟩)
  refine rx_aload_n C dX8_runScript_24 0 rfl ?_
  refine rx_getf C f_X8_10 dX8_runScript_25 b_B rfl ?_
  refine rx_iconst C dX8_runScript_28 (0 : Int32) (by decide) ?_
  replace hF := rx_leE hF; obtain ⟨o_t_4, e_o_t_4, hF⟩ := hF
  refine rx_pT1N C f_X8_73 dX8_runScript_29 b_t e_o_t_4 (fun hh c_t ff => ?_)
  replace b_t := c_t
  replace b_B := b_B.keep ff ⟨s_B_t, trivial⟩
  replace b_s := b_s.keep ff ⟨s_s_t, trivial⟩
  replace b_p := b_p.keep ff ⟨s_p_t, trivial⟩
  replace b_w := b_w.keep ff ⟨s_w_t, trivial⟩
  replace b_e := b_e.keep ff ⟨s_e_t, trivial⟩
  replace b_H := b_H.keep ff ⟨s_H_t, trivial⟩
  replace b_c := b_c.keep ff ⟨s_c_t, trivial⟩
  replace fr := rx_frt fr ff (fun a ha => ⟨ha.1, trivial⟩)
  refine rx_aload_n C dX8_runScript_32 0 rfl ?_
  refine rx_getf C f_X8_10 dX8_runScript_33 b_B rfl ?_
  replace hF := rx_biE hF; obtain ⟨y5, e_y5, hF⟩ := hF
  refine rx_ci (rx_rVN C (w_X6_hasFailed e_y5 b_t) Y_X6_hasFailed V_X6_hasFailed m_X8_97 (Or.inl ⟨_, _, _, _, b_t.1, rfl⟩) ⟨⟨rfl, rfl⟩, ⟨(Nat.le_of_ble_eq_true rfl), (Nat.le_of_ble_eq_true rfl)⟩, ⟨(Nat.le_of_ble_eq_true rfl), (Nat.le_of_ble_eq_true rfl)⟩⟩ rfl rfl (Nat.le_of_ble_eq_true rfl) dX8_runScript_36) (fun r hh n1 hpp => ?_)
  obtain ⟨rfl, bo_y5, hu⟩ := hpp
  cases hu
  refine rx_if_eq C dX8_runScript_39 44 (by decide) (fun c6 => ?_) (fun c6 => ?_)
  · rw [if_pos c6] at hF
    refine rx_aload_n C dX8_runScript_44 0 rfl ?_
    refine rx_getf C f_X8_44 dX8_runScript_45 b_B rfl ?_
    refine rx_aload_n C dX8_runScript_48 0 rfl ?_
    refine rx_getf C f_X8_31 dX8_runScript_49 b_B rfl ?_
    replace hF := rx_biE hF; obtain ⟨y7, e_y7, hF⟩ := hF
    refine rx_cv (rx_rVN C (w_X1_push e_y7 b_H b_p b_w b_e (by omega)) Y_X1_push V_X1_push m_X8_351 (Or.inl ⟨_, _, _, _, b_H.1.1, rfl⟩) ⟨⟨rfl, rfl⟩, ⟨(Nat.le_of_ble_eq_true rfl), (Nat.le_of_ble_eq_true rfl)⟩, ⟨(Nat.le_of_ble_eq_true rfl), (Nat.le_of_ble_eq_true rfl)⟩⟩ rfl rfl (Nat.le_of_ble_eq_true rfl) dX8_runScript_52) (fun hh n1 hpp => ?_)
    obtain ⟨hn, c_H, ff⟩ := hpp
    replace hn : n = n1 := Eq.symm hn
    subst hn
    replace b_H : bHH k (b + 69) (b + 12) y7 hh := c_H
    clear c_H
    replace ff : rx_fr [(b + 69, 130)] _ hh := ff
    replace b_B := b_B.keep ff ⟨s_B_H, trivial⟩
    replace b_t := b_t.keep ff ⟨s_t_H, trivial⟩
    replace b_s := b_s.keep ff ⟨s_s_H, trivial⟩
    replace b_p := b_p.keep ff ⟨s_p_H, trivial⟩
    replace b_w := b_w.keep ff ⟨s_w_H, trivial⟩
    replace b_e := b_e.keep ff ⟨s_e_H, trivial⟩
    replace b_c := b_c.keep ff ⟨s_c_H, trivial⟩
    replace fr := rx_frt fr ff (fun a ha => ⟨ha.2.2.2.2.1, trivial⟩)
    refine rx_aload_n C dX8_runScript_55 0 rfl ?_
    refine rx_getf C f_X8_51 dX8_runScript_56 b_B rfl ?_
    refine rx_aload_n C dX8_runScript_59 0 rfl ?_
    refine rx_getf C f_X8_31 dX8_runScript_60 b_B rfl ?_
    replace hF := rx_biE hF; obtain ⟨y8, e_y8, hF⟩ := hF
    refine rx_ci (rx_rVN C (w_X4_play e_y8 b_c b_p b_w b_e b_s (by omega) (by omega) (by omega)) Y_X4_play V_X4_play m_X8_354 (Or.inl ⟨_, _, _, _, b_c.1, rfl⟩) ⟨⟨rfl, rfl⟩, ⟨(Nat.le_of_ble_eq_true rfl), (Nat.le_of_ble_eq_true rfl)⟩, ⟨(Nat.le_of_ble_eq_true rfl), (Nat.le_of_ble_eq_true rfl)⟩⟩ rfl rfl (Nat.le_of_ble_eq_true rfl) dX8_runScript_63) (fun r hh n1 hpp => ?_)
    obtain ⟨rfl, hn, c_p, c_w, c_e, ff⟩ := hpp
    replace hn : n = n1 := Eq.symm hn
    subst hn
    replace b_p : bP k (b + 21) (b + 12) y8.2.1 hh := c_p
    clear c_p
    replace b_w : bQ k (b + 21 + 10) y8.2.2.1 hh := c_w
    clear c_w
    replace b_e : bQ k (b + 21 + 13) y8.2.2.2 hh := c_e
    clear c_e
    replace ff : rx_fr [(b + 21, 10), (b + 21 + 10, 3), (b + 21 + 13, 3)] _ hh := ff
    replace b_B := b_B.keep ff ⟨s_B_p, s_B_w, s_B_e, trivial⟩
    replace b_t := b_t.keep ff ⟨s_t_p, s_t_w, s_t_e, trivial⟩
    replace b_s := b_s.keep ff ⟨s_s_p, s_s_w, s_s_e, trivial⟩
    replace b_H := b_H.keep ff ⟨s_H_p, s_H_w, s_H_e, trivial⟩
    replace b_c := b_c.keep ff ⟨s_c_p, s_c_w, s_c_e, trivial⟩
    replace fr := rx_frt fr ff (fun a ha => ⟨ha.2.1, ha.2.2.1, ha.2.2.2.1, trivial⟩)
    obtain rfl := Option.some.inj hF
    exact rx_xret (rx_iret C dX8_runScript_66 (Nat.le_of_ble_eq_true rfl) (Nat.le_of_ble_eq_true rfl) ⟨rfl, rfl, rfl, b_t, b_p, b_w, b_e, b_H, b_c, fr⟩)
  · rw [if_neg c6] at hF
    refine rx_iconst C dX8_runScript_42 (-1 : Int32) (by decide) ?_
    obtain rfl := Option.some.inj hF
    exact rx_xret (rx_iret C dX8_runScript_43 (Nat.le_of_ble_eq_true rfl) (Nat.le_of_ble_eq_true rfl) ⟨rfl, rfl, rfl, b_t, b_p, b_w, b_e, b_H, b_c, fr⟩)
def F_X8_writeByte (oB : ob) (oO : ob) (x1 : Int32) : Option (ob × ob) := if (nI 64) ≤ (oB.1 9) then (some (oB, oO)) else (rx_le (oO.1, va_up oO.2 0 (rx_put 64 (oO.2 0) ((oB.1 9)) x1)) fun o_O_2 => rx_le (upd oB.1 9 (((oB.1 9) + (1 : Int32))), oB.2) fun o_B_3 => some (o_B_3, o_O_2))
set_option maxRecDepth 100000 in
set_option maxHeartbeats 4000000 in
theorem w_X8_writeByte {b : Nat} {oB : ob} {oO : ob} {x1 : Int32} {y : ob × ob} (hF : F_X8_writeByte oB oO x1 = some y) (b_B : bB k b oB h) (b_O : bO k (b + 203) oO h) : Met l yX8_writeByte (rx_ws yX8_writeByte cX8_writeByte 2 none) (rx_rm 1 22) (va_Pc [.ref b, .int x1] (rx_G G k h n)) (va_Qv (fun u => u.2 = n ∧ bB k b y.1 u.1 ∧ bO k (b + 203) y.2 u.1 ∧ rx_fr [(b, 1), (b + 203, 1)] h u.1) (rx_B G k) (rx_A k)) 0 0 (rx_A k) := by
  have s_B_O : b + 1 ≤ b + 203 ∨ b + 203 + 1 ≤ b := by omega
  have s_O_B : b + 203 + 1 ≤ b ∨ b + 1 ≤ b + 203 := by omega
  refine rx_start [(0, .ref b), (1, .int x1)] rfl (Nat.le_of_ble_eq_true rfl) (by decide) rfl (fun P9 E9 S9 M9 A9 B9 me9 c9 C hname => ?_)
  unfold F_X8_writeByte at hF
  have fr : rx_fr [(b, 1), (b + 203, 1)] h h := rx_fr0
  refine rx_aload_n C dX8_writeByte_0 0 rfl ?_
  refine rx_getf C f_X8_358 dX8_writeByte_1 b_B rfl ?_
  refine rx_aload_n C dX8_writeByte_4 0 rfl ?_
  refine rx_getf C f_X8_55 dX8_writeByte_5 b_B rfl ?_
  refine rx_alen C 0 rfl dX8_writeByte_8 b_O ?_
  refine rx_icmp_ge C dX8_writeByte_9 34 (by decide) (fun c1 => ?_) (fun c1 => ?_)
  · rw [if_pos c1] at hF
    obtain rfl := Option.some.inj hF
    exact rx_vret C dX8_writeByte_34 (Nat.le_refl _) (Nat.le_refl _) ⟨rfl, b_B, b_O, fr⟩
  · rw [if_neg c1] at hF
    refine rx_aload_n C dX8_writeByte_12 0 rfl ?_
    refine rx_getf C f_X8_55 dX8_writeByte_13 b_B rfl ?_
    refine rx_aload_n C dX8_writeByte_16 0 rfl ?_
    refine rx_getf C f_X8_358 dX8_writeByte_17 b_B rfl ?_
    refine rx_iload_n C dX8_writeByte_20 1 rfl ?_
    replace hF := rx_leE hF; obtain ⟨o_O_2, e_o_O_2, hF⟩ := hF
    refine rx_cv (rx_rS C (w_put b_O (by decide)) Y_X8_put S_X8_put m_X8_404 ⟨⟨rfl, rfl⟩, ⟨(Nat.le_of_ble_eq_true rfl), (Nat.le_of_ble_eq_true rfl)⟩, ⟨(Nat.le_of_ble_eq_true rfl), (Nat.le_of_ble_eq_true rfl)⟩⟩ rfl rfl (Nat.le_of_ble_eq_true rfl) dX8_writeByte_21) (fun hh n1 hpp => ?_)
    obtain ⟨c_O, ff, hn⟩ := b_O.wr0 e_o_O_2 hpp
    replace hn := Eq.symm hn
    subst hn
    replace b_O := c_O
    replace b_B := b_B.keep ff ⟨s_B_O, trivial⟩
    replace fr := rx_frt fr ff (fun a ha => ⟨ha.2.1, trivial⟩)
    refine rx_aload_n C dX8_writeByte_24 0 rfl ?_
    refine rx_dup C dX8_writeByte_25 rfl ?_
    refine rx_getf C f_X8_358 dX8_writeByte_26 b_B rfl ?_
    refine rx_iconst C dX8_writeByte_29 (1 : Int32) (by decide) ?_
    refine rx_iadd C dX8_writeByte_30 ?_
    replace hF := rx_leE hF; obtain ⟨o_B_3, e_o_B_3, hF⟩ := hF
    refine rx_pB9 C f_X8_358 dX8_writeByte_31 b_B e_o_B_3 (fun hh c_B ff => ?_)
    replace b_B := c_B
    replace b_O := b_O.keep ff ⟨s_O_B, trivial⟩
    replace fr := rx_frt fr ff (fun a ha => ⟨ha.1, trivial⟩)
    obtain rfl := Option.some.inj hF
    exact rx_vret C dX8_writeByte_34 (Nat.le_refl _) (Nat.le_refl _) ⟨rfl, b_B, b_O, fr⟩
def F_X8_writeNumber (oB : ob) (oO : ob) (x1 : Int32) : Option (ob × ob) := (if x1 < (10 : Int32) then (some (oB, oO)) else ((F_X8_writeByte oB oO (((48 : Int32) + (x1 / (10 : Int32))))).bind fun y5 => some (y5.1, y5.2))).bind fun zj1 => (F_X8_writeByte zj1.1 zj1.2 (((48 : Int32) + (x1 - x1 / (10 : Int32) * (10 : Int32))))).bind fun y3 => some (y3.1, y3.2)
set_option maxRecDepth 100000 in
set_option maxHeartbeats 4000000 in
theorem w_X8_writeNumber {b : Nat} {oB : ob} {oO : ob} {x1 : Int32} {y : ob × ob} (hF : F_X8_writeNumber oB oO x1 = some y) (b_B : bB k b oB h) (b_O : bO k (b + 203) oO h) : Met l yX8_writeNumber (rx_ws yX8_writeNumber cX8_writeNumber 2 none) (rx_rm 2 43) (va_Pc [.ref b, .int x1] (rx_G G k h n)) (va_Qv (fun u => u.2 = n ∧ bB k b y.1 u.1 ∧ bO k (b + 203) y.2 u.1 ∧ rx_fr [(b, 1), (b + 203, 1)] h u.1) (rx_B G k) (rx_A k)) 0 0 (rx_A k) := by
  refine rx_start [(0, .ref b), (1, .int x1)] rfl (Nat.le_of_ble_eq_true rfl) (by decide) rfl (fun P9 E9 S9 M9 A9 B9 me9 c9 C hname => ?_)
  unfold F_X8_writeNumber at hF
  have fr : rx_fr [(b, 1), (b + 203, 1)] h h := rx_fr0
  refine rx_iload_n C dX8_writeNumber_0 1 rfl ?_
  refine rx_bipush C dX8_writeNumber_1 (10 : Int32) (by decide) ?_
  replace hF := rx_biE hF; obtain ⟨zj1, e_zj1, hF⟩ := hF
  have KJ2 : ∀ hh : hp, bB k b zj1.1 hh → bO k (b + 203) zj1.2 hh → rx_fr [(b, 1), (b + 203, 1)] h hh → rx_W P9 l E9 (rx_rm 2 43) S9 M9 A9 B9 me9 c9 (MQ B9 (va_Qv (fun u => u.2 = n ∧ bB k b y.1 u.1 ∧ bO k (b + 203) y.2 u.1 ∧ rx_fr [(b, 1), (b + 203, 1)] h u.1) (rx_B G k) (rx_A k)) A9 S9 0 0 (rx_A k)) G k 2 0 0 hh n 17 [(0, .ref b), (1, .int x1)] [] := by
    intro hh b_B b_O fr
    refine rx_aload_n C dX8_writeNumber_17 0 rfl ?_
    refine rx_bipush C dX8_writeNumber_18 (48 : Int32) (by decide) ?_
    refine rx_iload_n C dX8_writeNumber_20 1 rfl ?_
    refine rx_bipush C dX8_writeNumber_21 (10 : Int32) (by decide) ?_
    refine rx_irem C dX8_writeNumber_23 (by decide) ?_
    refine rx_iadd C dX8_writeNumber_24 ?_
    replace hF := rx_biE hF; obtain ⟨y3, e_y3, hF⟩ := hF
    refine rx_cv (rx_rV C (w_X8_writeByte e_y3 b_B b_O) Y_X8_writeByte V_X8_writeByte m_X8_361 (Or.inl ⟨_, _, _, _, b_B, rfl⟩) ⟨⟨rfl, rfl⟩, ⟨(Nat.le_of_ble_eq_true rfl), (Nat.le_of_ble_eq_true rfl)⟩, ⟨(Nat.le_of_ble_eq_true rfl), (Nat.le_of_ble_eq_true rfl)⟩⟩ rfl rfl (Nat.le_of_ble_eq_true rfl) dX8_writeNumber_25) (fun hh n1 hpp => ?_)
    obtain ⟨hn, c_B, c_O, ff⟩ := hpp
    replace hn : n = n1 := Eq.symm hn
    subst hn
    replace b_B : bB k b y3.1 hh := c_B
    clear c_B
    replace b_O : bO k (b + 203) y3.2 hh := c_O
    clear c_O
    replace ff : rx_fr [(b, 1), (b + 203, 1)] _ hh := ff
    replace fr := rx_frt fr ff (fun a ha => ⟨ha.1, ha.2.1, trivial⟩)
    obtain rfl := Option.some.inj hF
    exact rx_vret C dX8_writeNumber_28 (Nat.le_refl _) (Nat.le_refl _) ⟨rfl, b_B, b_O, fr⟩
  replace hF := e_zj1
  clear e_zj1
  refine rx_icmp_lt C dX8_writeNumber_3 17 (by decide) (fun c4 => ?_) (fun c4 => ?_)
  · rw [if_pos c4] at hF
    obtain rfl := Option.some.inj hF
    refine rx_sub [0, 1] rfl ?_
    exact KJ2 _ b_B b_O fr
  · rw [if_neg c4] at hF
    refine rx_aload_n C dX8_writeNumber_6 0 rfl ?_
    refine rx_bipush C dX8_writeNumber_7 (48 : Int32) (by decide) ?_
    refine rx_iload_n C dX8_writeNumber_9 1 rfl ?_
    refine rx_bipush C dX8_writeNumber_10 (10 : Int32) (by decide) ?_
    refine rx_idiv C dX8_writeNumber_12 (by decide) ?_
    refine rx_iadd C dX8_writeNumber_13 ?_
    replace hF := rx_biE hF; obtain ⟨y5, e_y5, hF⟩ := hF
    refine rx_cv (rx_rV C (w_X8_writeByte e_y5 b_B b_O) Y_X8_writeByte V_X8_writeByte m_X8_361 (Or.inl ⟨_, _, _, _, b_B, rfl⟩) ⟨⟨rfl, rfl⟩, ⟨(Nat.le_of_ble_eq_true rfl), (Nat.le_of_ble_eq_true rfl)⟩, ⟨(Nat.le_of_ble_eq_true rfl), (Nat.le_of_ble_eq_true rfl)⟩⟩ rfl rfl (Nat.le_of_ble_eq_true rfl) dX8_writeNumber_14) (fun hh n1 hpp => ?_)
    obtain ⟨hn, c_B, c_O, ff⟩ := hpp
    replace hn : n = n1 := Eq.symm hn
    subst hn
    replace b_B : bB k b y5.1 hh := c_B
    clear c_B
    replace b_O : bO k (b + 203) y5.2 hh := c_O
    clear c_O
    replace ff : rx_fr [(b, 1), (b + 203, 1)] _ hh := ff
    replace fr := rx_frt fr ff (fun a ha => ⟨ha.1, ha.2.1, trivial⟩)
    obtain rfl := Option.some.inj hF
    refine rx_sub [0, 1] rfl ?_
    exact KJ2 _ b_B b_O fr
def F_X8_writeQueue_19_e (os : ob) (op : ob) (ow : ob) (oe : ob) (x1 : Int32) : Nat → ob → ob → Int32 → Option (Int32 × ob × ob)
  | 0, _, _, _ => none
  | fu + 1, oB, oO, x3 => if (oe.1 2) ≤ x3 then (some (x3, oB, oO)) else ((if x3 ≤ (0 : Int32) then (some (oB, oO)) else ((F_X8_writeByte oB oO ((32 : Int32))).bind fun y20 => some (y20.1, y20.2))).bind fun zj7 => (F_X3_personAt oe x3).bind fun y9 => (F_X8_writeNumber zj7.1 zj7.2 y9).bind fun y10 => (F_X8_writeByte y10.1 y10.2 ((58 : Int32))).bind fun y11 => (F_X3_offerAt oe x3).bind fun y12 => (F_X8_writeNumber y11.1 y11.2 y12).bind fun y13 => (F_X2_looksKingly op os y9).bind fun y14 => (if y14 = (0 : Int32) then (some (y13.1, y13.2)) else ((F_X8_writeByte y13.1 y13.2 ((33 : Int32))).bind fun y18 => some (y18.1, y18.2))).bind fun zj15 => F_X8_writeQueue_19_e os op ow oe x1 fu zj15.1 zj15.2 ((x3 + 1)))
def F_X8_writeQueue_19_w (os : ob) (op : ob) (ow : ob) (oe : ob) (x1 : Int32) : Nat → ob → ob → Int32 → Option (Int32 × ob × ob)
  | 0, _, _, _ => none
  | fu + 1, oB, oO, x3 => if (ow.1 2) ≤ x3 then (some (x3, oB, oO)) else ((if x3 ≤ (0 : Int32) then (some (oB, oO)) else ((F_X8_writeByte oB oO ((32 : Int32))).bind fun y39 => some (y39.1, y39.2))).bind fun zj26 => (F_X3_personAt ow x3).bind fun y28 => (F_X8_writeNumber zj26.1 zj26.2 y28).bind fun y29 => (F_X8_writeByte y29.1 y29.2 ((58 : Int32))).bind fun y30 => (F_X3_offerAt ow x3).bind fun y31 => (F_X8_writeNumber y30.1 y30.2 y31).bind fun y32 => (F_X2_looksKingly op os y28).bind fun y33 => (if y33 = (0 : Int32) then (some (y32.1, y32.2)) else ((F_X8_writeByte y32.1 y32.2 ((33 : Int32))).bind fun y37 => some (y37.1, y37.2))).bind fun zj34 => F_X8_writeQueue_19_w os op ow oe x1 fu zj34.1 zj34.2 ((x3 + 1)))
def F_X8_writeQueue (oB : ob) (os : ob) (op : ob) (ow : ob) (oe : ob) (oO : ob) (x1 : Int32) : Option (Int32 × ob × ob) := (F_X8_bankOf x1).bind fun y1 => if y1 = (1 : Int32) then (rx_le (upd oB.1 9 ((0 : Int32)), oB.2) fun o_B_3 => (F_X8_writeQueue_19_e os op ow oe x1 100000 o_B_3 oO ((0 : Int32))).bind fun zl21 => some ((zl21.2.1.1 9), zl21.2.1, zl21.2.2)) else (rx_le (upd oB.1 9 ((0 : Int32)), oB.2) fun o_B_22 => (F_X8_writeQueue_19_w os op ow oe x1 100000 o_B_22 oO ((0 : Int32))).bind fun zl40 => some ((zl40.2.1.1 9), zl40.2.1, zl40.2.2))
set_option maxRecDepth 100000 in
set_option maxHeartbeats 4000000 in
theorem w_X8_writeQueue {b : Nat} {oB : ob} {os : ob} {op : ob} {ow : ob} {oe : ob} {oO : ob} {x1 : Int32} {y : Int32 × ob × ob} (hF : F_X8_writeQueue oB os op ow oe oO x1 = some y) (b_B : bB k b oB h) (b_s : bS k (b + 12) os h) (b_p : bP k (b + 21) (b + 12) op h) (b_w : bQ k (b + 21 + 10) ow h) (b_e : bQ k (b + 21 + 13) oe h) (b_O : bO k (b + 203) oO h) : Met l yX8_writeQueue (rx_ws yX8_writeQueue cX8_writeQueue 5 (some .int)) (rx_rm 3 65) (va_Pc [.ref b, .int x1] (rx_G G k h n)) (va_Qi (fun r u => y.1 = r ∧ u.2 = n ∧ bB k b y.2.1 u.1 ∧ bO k (b + 203) y.2.2 u.1 ∧ rx_fr [(b, 1), (b + 203, 1)] h u.1) (rx_B G k) (rx_A k)) 0 0 (rx_A k) := by
  have s_s_B : b + 12 + 9 ≤ b ∨ b + 1 ≤ b + 12 := by omega
  have s_p_B : b + 21 + 10 ≤ b ∨ b + 1 ≤ b + 21 := by omega
  have s_w_B : b + 21 + 10 + 3 ≤ b ∨ b + 1 ≤ b + 21 + 10 := by omega
  have s_e_B : b + 21 + 13 + 3 ≤ b ∨ b + 1 ≤ b + 21 + 13 := by omega
  have s_O_B : b + 203 + 1 ≤ b ∨ b + 1 ≤ b + 203 := by omega
  have s_s_O : b + 12 + 9 ≤ b + 203 ∨ b + 203 + 1 ≤ b + 12 := by omega
  have s_p_O : b + 21 + 10 ≤ b + 203 ∨ b + 203 + 1 ≤ b + 21 := by omega
  have s_w_O : b + 21 + 10 + 3 ≤ b + 203 ∨ b + 203 + 1 ≤ b + 21 + 10 := by omega
  have s_e_O : b + 21 + 13 + 3 ≤ b + 203 ∨ b + 203 + 1 ≤ b + 21 + 13 := by omega
  refine rx_start [(0, .ref b), (1, .int x1)] rfl (Nat.le_of_ble_eq_true rfl) (by decide) rfl (fun P9 E9 S9 M9 A9 B9 me9 c9 C hname => ?_)
  unfold F_X8_writeQueue at hF
  have fr : rx_fr [(b, 1), (b + 203, 1)] h h := rx_fr0
  have b0_B := b_B
  have b0_s := b_s
  have b0_p := b_p
  have b0_w := b_w
  have b0_e := b_e
  have b0_O := b_O
  refine rx_aload_n C dX8_writeQueue_0 0 rfl ?_
  refine rx_getf C f_X8_31 dX8_writeQueue_1 b_B rfl ?_
  refine rx_iload_n C dX8_writeQueue_4 1 rfl ?_
  replace hF := rx_biE hF; obtain ⟨y1, e_y1, hF⟩ := hF
  refine rx_ci (rx_rS C (w_X8_bankOf e_y1 ) Y_X8_bankOf S_X8_bankOf m_X8_132 ⟨⟨rfl, rfl⟩, ⟨(Nat.le_of_ble_eq_true rfl), (Nat.le_of_ble_eq_true rfl)⟩, ⟨(Nat.le_of_ble_eq_true rfl), (Nat.le_of_ble_eq_true rfl)⟩⟩ rfl rfl (Nat.le_of_ble_eq_true rfl) dX8_writeQueue_5) (fun r hh n1 hpp => ?_)
  obtain ⟨rfl, hu⟩ := hpp
  cases hu
  refine rx_cq (rx_rVN C (w_queueOn b_p.1) Y_X2_queueOn V_X2_queueOn m_X8_229 (Or.inl ⟨_, _, _, _, b_p.1, rfl⟩) ⟨⟨rfl, rfl⟩, ⟨(Nat.le_of_ble_eq_true rfl), (Nat.le_of_ble_eq_true rfl)⟩, ⟨(Nat.le_of_ble_eq_true rfl), (Nat.le_of_ble_eq_true rfl)⟩⟩ rfl rfl (Nat.le_of_ble_eq_true rfl) dX8_writeQueue_8) (fun r hh n1 hpp => ?_)
  obtain ⟨rfl, hu⟩ := hpp
  cases hu
  by_cases c2 : y1 = (1 : Int32)
  · rw [if_pos c2] at hF ⊢
    show rx_W _ _ _ _ _ _ _ _ _ _ _ _ _ _ _ _ _ _ _ _ (.ref (b + 21 + 13) :: _)
    refine rx_astore_n C dX8_writeQueue_11 (by decide) [(2, .ref (b + 21 + 13)), (0, .ref b), (1, .int x1)] rfl ?_
    refine rx_aload_n C dX8_writeQueue_12 1 rfl ?_
    refine rx_iconst C dX8_writeQueue_13 (0 : Int32) (by decide) ?_
    replace hF := rx_leE hF; obtain ⟨o_B_3, e_o_B_3, hF⟩ := hF
    refine rx_pB9 C f_X8_358 dX8_writeQueue_14 b_B e_o_B_3 (fun hh c_B ff => ?_)
    replace b_B := c_B
    replace b_s := b_s.keep ff ⟨s_s_B, trivial⟩
    replace b_p := b_p.keep ff ⟨s_p_B, trivial⟩
    replace b_w := b_w.keep ff ⟨s_w_B, trivial⟩
    replace b_e := b_e.keep ff ⟨s_e_B, trivial⟩
    replace b_O := b_O.keep ff ⟨s_O_B, trivial⟩
    replace fr := rx_frt fr ff (fun a ha => ⟨ha.1, trivial⟩)
    refine rx_iconst C dX8_writeQueue_17 (0 : Int32) (by decide) ?_
    refine rx_istore_n C dX8_writeQueue_18 (by decide) [(3, .int ((0 : Int32))), (2, .ref (b + 21 + 13)), (0, .ref b), (1, .int x1)] rfl ?_
    have loop5 : ∀ (fu : Nat) (zz : Int32 × ob × ob) (oB : ob) (oO : ob) (x3 : Int32) (hh : hp), F_X8_writeQueue_19_e os op ow oe x1 fu oB oO x3 = some zz → bB k b oB hh → bO k (b + 203) oO hh → bS k (b + 12) os hh → bP k (b + 21) (b + 12) op hh → bQ k (b + 21 + 10) ow hh → bQ k (b + 21 + 13) oe hh → rx_fr [(b, 1), (b + 203, 1)] h hh → (∀ hh : hp, bB k b zz.2.1 hh → bO k (b + 203) zz.2.2 hh → rx_fr [(b, 1), (b + 203, 1)] h hh → rx_W P9 l E9 (rx_rm 3 65) S9 M9 A9 B9 me9 c9 (MQ B9 (va_Qi (fun r u => y.1 = r ∧ u.2 = n ∧ bB k b y.2.1 u.1 ∧ bO k (b + 203) y.2.2 u.1 ∧ rx_fr [(b, 1), (b + 203, 1)] h u.1) (rx_B G k) (rx_A k)) A9 S9 0 0 (rx_A k)) G k 5 0 0 hh n 89 [(0, .ref b), (1, .int x1), (2, .ref (b + 21 + 13)), (3, .int zz.1)] []) → rx_W P9 l E9 (rx_rm 3 65) S9 M9 A9 B9 me9 c9 (MQ B9 (va_Qi (fun r u => y.1 = r ∧ u.2 = n ∧ bB k b y.2.1 u.1 ∧ bO k (b + 203) y.2.2 u.1 ∧ rx_fr [(b, 1), (b + 203, 1)] h u.1) (rx_B G k) (rx_A k)) A9 S9 0 0 (rx_A k)) G k 5 0 0 hh n 19 [(0, .ref b), (1, .int x1), (2, .ref (b + 21 + 13)), (3, .int x3)] [] := by
      intro fu
      induction fu with
      | zero => intro zz oB oO x3 hh hF b_B b_O b_s b_p b_w b_e fr KK; exact absurd hF (by simp [F_X8_writeQueue_19_e])
      | succ fu ih_loop5 =>
        intro zz oB oO x3 hh hF b_B b_O b_s b_p b_w b_e fr KK
        unfold F_X8_writeQueue_19_e at hF
        refine rx_iload_n C dX8_writeQueue_19 3 rfl ?_
        refine rx_aload_n C dX8_writeQueue_20 2 rfl ?_
        refine rx_getfN C f_X8_233 dX8_writeQueue_21 b_e.1 rfl ?_
        refine rx_icmp_ge C dX8_writeQueue_24 89 (by decide) (fun c6 => ?_) (fun c6 => ?_)
        · rw [if_pos c6] at hF
          obtain rfl := Option.some.inj hF
          refine rx_sub [0, 1, 2, 3] rfl ?_
          exact KK _ b_B b_O fr
        · rw [if_neg c6] at hF
          refine rx_iload_n C dX8_writeQueue_27 3 rfl ?_
          replace hF := rx_biE hF; obtain ⟨zj7, e_zj7, hF⟩ := hF
          have KJ8 : ∀ hh : hp, bB k b zj7.1 hh → bO k (b + 203) zj7.2 hh → rx_fr [(b, 1), (b + 203, 1)] h hh → rx_W P9 l E9 (rx_rm 3 65) S9 M9 A9 B9 me9 c9 (MQ B9 (va_Qi (fun r u => y.1 = r ∧ u.2 = n ∧ bB k b y.2.1 u.1 ∧ bO k (b + 203) y.2.2 u.1 ∧ rx_fr [(b, 1), (b + 203, 1)] h u.1) (rx_B G k) (rx_A k)) A9 S9 0 0 (rx_A k)) G k 5 0 0 hh n 37 [(0, .ref b), (1, .int x1), (2, .ref (b + 21 + 13)), (3, .int x3)] [] := by
            intro hh b_B b_O fr
            have b_s := b0_s.keep fr ⟨s_s_B, s_s_O, trivial⟩
            have b_p := b0_p.keep fr ⟨s_p_B, s_p_O, trivial⟩
            have b_w := b0_w.keep fr ⟨s_w_B, s_w_O, trivial⟩
            have b_e := b0_e.keep fr ⟨s_e_B, s_e_O, trivial⟩
            refine rx_aload_n C dX8_writeQueue_37 2 rfl ?_
            refine rx_iload_n C dX8_writeQueue_38 3 rfl ?_
            replace hF := rx_biE hF; obtain ⟨y9, e_y9, hF⟩ := hF
            refine rx_ci (rx_rVN C (w_X3_personAt e_y9 b_e) Y_X3_personAt V_X3_personAt m_X8_238 (Or.inl ⟨_, _, _, _, b_e.1, rfl⟩) ⟨⟨rfl, rfl⟩, ⟨(Nat.le_of_ble_eq_true rfl), (Nat.le_of_ble_eq_true rfl)⟩, ⟨(Nat.le_of_ble_eq_true rfl), (Nat.le_of_ble_eq_true rfl)⟩⟩ rfl rfl (Nat.le_of_ble_eq_true rfl) dX8_writeQueue_39) (fun r hh n1 hpp => ?_)
            obtain ⟨rfl, hu⟩ := hpp
            cases hu
            refine rx_istore C dX8_writeQueue_42 (by decide) [(4, .int y9), (0, .ref b), (1, .int x1), (2, .ref (b + 21 + 13)), (3, .int x3)] rfl ?_
            refine rx_aload_n C dX8_writeQueue_44 1 rfl ?_
            refine rx_iload C dX8_writeQueue_45 0 rfl ?_
            replace hF := rx_biE hF; obtain ⟨y10, e_y10, hF⟩ := hF
            refine rx_cv (rx_rV C (w_X8_writeNumber e_y10 b_B b_O) Y_X8_writeNumber V_X8_writeNumber m_X8_364 (Or.inl ⟨_, _, _, _, b_B, rfl⟩) ⟨⟨rfl, rfl⟩, ⟨(Nat.le_of_ble_eq_true rfl), (Nat.le_of_ble_eq_true rfl)⟩, ⟨(Nat.le_of_ble_eq_true rfl), (Nat.le_of_ble_eq_true rfl)⟩⟩ rfl rfl (Nat.le_of_ble_eq_true rfl) dX8_writeQueue_47) (fun hh n1 hpp => ?_)
            obtain ⟨hn, c_B, c_O, ff⟩ := hpp
            replace hn : n = n1 := Eq.symm hn
            subst hn
            replace b_B : bB k b y10.1 hh := c_B
            clear c_B
            replace b_O : bO k (b + 203) y10.2 hh := c_O
            clear c_O
            replace ff : rx_fr [(b, 1), (b + 203, 1)] _ hh := ff
            replace b_s := b_s.keep ff ⟨s_s_B, s_s_O, trivial⟩
            replace b_p := b_p.keep ff ⟨s_p_B, s_p_O, trivial⟩
            replace b_w := b_w.keep ff ⟨s_w_B, s_w_O, trivial⟩
            replace b_e := b_e.keep ff ⟨s_e_B, s_e_O, trivial⟩
            replace fr := rx_frt fr ff (fun a ha => ⟨ha.1, ha.2.1, trivial⟩)
            refine rx_aload_n C dX8_writeQueue_50 1 rfl ?_
            refine rx_bipush C dX8_writeQueue_51 (58 : Int32) (by decide) ?_
            replace hF := rx_biE hF; obtain ⟨y11, e_y11, hF⟩ := hF
            refine rx_cv (rx_rV C (w_X8_writeByte e_y11 b_B b_O) Y_X8_writeByte V_X8_writeByte m_X8_361 (Or.inl ⟨_, _, _, _, b_B, rfl⟩) ⟨⟨rfl, rfl⟩, ⟨(Nat.le_of_ble_eq_true rfl), (Nat.le_of_ble_eq_true rfl)⟩, ⟨(Nat.le_of_ble_eq_true rfl), (Nat.le_of_ble_eq_true rfl)⟩⟩ rfl rfl (Nat.le_of_ble_eq_true rfl) dX8_writeQueue_53) (fun hh n1 hpp => ?_)
            obtain ⟨hn, c_B, c_O, ff⟩ := hpp
            replace hn : n = n1 := Eq.symm hn
            subst hn
            replace b_B : bB k b y11.1 hh := c_B
            clear c_B
            replace b_O : bO k (b + 203) y11.2 hh := c_O
            clear c_O
            replace ff : rx_fr [(b, 1), (b + 203, 1)] _ hh := ff
            replace b_s := b_s.keep ff ⟨s_s_B, s_s_O, trivial⟩
            replace b_p := b_p.keep ff ⟨s_p_B, s_p_O, trivial⟩
            replace b_w := b_w.keep ff ⟨s_w_B, s_w_O, trivial⟩
            replace b_e := b_e.keep ff ⟨s_e_B, s_e_O, trivial⟩
            replace fr := rx_frt fr ff (fun a ha => ⟨ha.1, ha.2.1, trivial⟩)
            refine rx_aload_n C dX8_writeQueue_56 1 rfl ?_
            refine rx_aload_n C dX8_writeQueue_57 3 rfl ?_
            refine rx_iload_n C dX8_writeQueue_58 4 rfl ?_
            replace hF := rx_biE hF; obtain ⟨y12, e_y12, hF⟩ := hF
            refine rx_ci (rx_rVN C (w_X3_offerAt e_y12 b_e) Y_X3_offerAt V_X3_offerAt m_X8_367 (Or.inl ⟨_, _, _, _, b_e.1, rfl⟩) ⟨⟨rfl, rfl⟩, ⟨(Nat.le_of_ble_eq_true rfl), (Nat.le_of_ble_eq_true rfl)⟩, ⟨(Nat.le_of_ble_eq_true rfl), (Nat.le_of_ble_eq_true rfl)⟩⟩ rfl rfl (Nat.le_of_ble_eq_true rfl) dX8_writeQueue_59) (fun r hh n1 hpp => ?_)
            obtain ⟨rfl, hu⟩ := hpp
            cases hu
            replace hF := rx_biE hF; obtain ⟨y13, e_y13, hF⟩ := hF
            refine rx_cv (rx_rV C (w_X8_writeNumber e_y13 b_B b_O) Y_X8_writeNumber V_X8_writeNumber m_X8_364 (Or.inl ⟨_, _, _, _, b_B, rfl⟩) ⟨⟨rfl, rfl⟩, ⟨(Nat.le_of_ble_eq_true rfl), (Nat.le_of_ble_eq_true rfl)⟩, ⟨(Nat.le_of_ble_eq_true rfl), (Nat.le_of_ble_eq_true rfl)⟩⟩ rfl rfl (Nat.le_of_ble_eq_true rfl) dX8_writeQueue_62) (fun hh n1 hpp => ?_)
            obtain ⟨hn, c_B, c_O, ff⟩ := hpp
            replace hn : n = n1 := Eq.symm hn
            subst hn
            replace b_B : bB k b y13.1 hh := c_B
            clear c_B
            replace b_O : bO k (b + 203) y13.2 hh := c_O
            clear c_O
            replace ff : rx_fr [(b, 1), (b + 203, 1)] _ hh := ff
            replace b_s := b_s.keep ff ⟨s_s_B, s_s_O, trivial⟩
            replace b_p := b_p.keep ff ⟨s_p_B, s_p_O, trivial⟩
            replace b_w := b_w.keep ff ⟨s_w_B, s_w_O, trivial⟩
            replace b_e := b_e.keep ff ⟨s_e_B, s_e_O, trivial⟩
            replace fr := rx_frt fr ff (fun a ha => ⟨ha.1, ha.2.1, trivial⟩)
            refine rx_aload_n C dX8_writeQueue_65 1 rfl ?_
            refine rx_getf C f_X8_31 dX8_writeQueue_66 b_B rfl ?_
            refine rx_iload C dX8_writeQueue_69 0 rfl ?_
            replace hF := rx_biE hF; obtain ⟨y14, e_y14, hF⟩ := hF
            refine rx_ci (rx_rVN C (w_X2_looksKingly e_y14 b_p b_s (by omega)) Y_X2_looksKingly V_X2_looksKingly m_X8_193 (Or.inl ⟨_, _, _, _, b_p.1, rfl⟩) ⟨⟨rfl, rfl⟩, ⟨(Nat.le_of_ble_eq_true rfl), (Nat.le_of_ble_eq_true rfl)⟩, ⟨(Nat.le_of_ble_eq_true rfl), (Nat.le_of_ble_eq_true rfl)⟩⟩ rfl rfl (Nat.le_of_ble_eq_true rfl) dX8_writeQueue_71) (fun r hh n1 hpp => ?_)
            obtain ⟨rfl, bo_y14, hu⟩ := hpp
            cases hu
            replace hF := rx_biE hF; obtain ⟨zj15, e_zj15, hF⟩ := hF
            have KJ16 : ∀ hh : hp, bB k b zj15.1 hh → bO k (b + 203) zj15.2 hh → rx_fr [(b, 1), (b + 203, 1)] h hh → rx_W P9 l E9 (rx_rm 3 65) S9 M9 A9 B9 me9 c9 (MQ B9 (va_Qi (fun r u => y.1 = r ∧ u.2 = n ∧ bB k b y.2.1 u.1 ∧ bO k (b + 203) y.2.2 u.1 ∧ rx_fr [(b, 1), (b + 203, 1)] h u.1) (rx_B G k) (rx_A k)) A9 S9 0 0 (rx_A k)) G k 5 0 0 hh n 83 [(0, .ref b), (1, .int x1), (2, .ref (b + 21 + 13)), (3, .int x3), (4, .int y9)] [] := by
              intro hh b_B b_O fr
              have b_s := b0_s.keep fr ⟨s_s_B, s_s_O, trivial⟩
              have b_p := b0_p.keep fr ⟨s_p_B, s_p_O, trivial⟩
              have b_w := b0_w.keep fr ⟨s_w_B, s_w_O, trivial⟩
              have b_e := b0_e.keep fr ⟨s_e_B, s_e_O, trivial⟩
              refine rx_iinc C dX8_writeQueue_83 3 rfl (x3 + 1) rfl (by decide) [(3, .int ((x3 + 1))), (0, .ref b), (1, .int x1), (2, .ref (b + 21 + 13)), (4, .int y9)] rfl ?_
              refine rx_goto C dX8_writeQueue_86 19 (by decide) ?_
              refine rx_sub [1, 2, 3, 0] rfl ?_
              exact ih_loop5 _ _ _ _ _ hF b_B b_O b_s b_p b_w b_e fr KK
            replace hF := e_zj15
            clear e_zj15
            refine rx_if_eq C dX8_writeQueue_74 83 (by decide) (fun c17 => ?_) (fun c17 => ?_)
            · rw [if_pos c17] at hF
              obtain rfl := Option.some.inj hF
              refine rx_sub [1, 2, 3, 4, 0] rfl ?_
              exact KJ16 _ b_B b_O fr
            · rw [if_neg c17] at hF
              refine rx_aload_n C dX8_writeQueue_77 1 rfl ?_
              refine rx_bipush C dX8_writeQueue_78 (33 : Int32) (by decide) ?_
              replace hF := rx_biE hF; obtain ⟨y18, e_y18, hF⟩ := hF
              refine rx_cv (rx_rV C (w_X8_writeByte e_y18 b_B b_O) Y_X8_writeByte V_X8_writeByte m_X8_361 (Or.inl ⟨_, _, _, _, b_B, rfl⟩) ⟨⟨rfl, rfl⟩, ⟨(Nat.le_of_ble_eq_true rfl), (Nat.le_of_ble_eq_true rfl)⟩, ⟨(Nat.le_of_ble_eq_true rfl), (Nat.le_of_ble_eq_true rfl)⟩⟩ rfl rfl (Nat.le_of_ble_eq_true rfl) dX8_writeQueue_80) (fun hh n1 hpp => ?_)
              obtain ⟨hn, c_B, c_O, ff⟩ := hpp
              replace hn : n = n1 := Eq.symm hn
              subst hn
              replace b_B : bB k b y18.1 hh := c_B
              clear c_B
              replace b_O : bO k (b + 203) y18.2 hh := c_O
              clear c_O
              replace ff : rx_fr [(b, 1), (b + 203, 1)] _ hh := ff
              replace b_s := b_s.keep ff ⟨s_s_B, s_s_O, trivial⟩
              replace b_p := b_p.keep ff ⟨s_p_B, s_p_O, trivial⟩
              replace b_w := b_w.keep ff ⟨s_w_B, s_w_O, trivial⟩
              replace b_e := b_e.keep ff ⟨s_e_B, s_e_O, trivial⟩
              replace fr := rx_frt fr ff (fun a ha => ⟨ha.1, ha.2.1, trivial⟩)
              obtain rfl := Option.some.inj hF
              refine rx_sub [1, 2, 3, 4, 0] rfl ?_
              exact KJ16 _ b_B b_O fr
          replace hF := e_zj7
          clear e_zj7
          refine rx_if_le C dX8_writeQueue_28 37 (by decide) (fun c19 => ?_) (fun c19 => ?_)
          · rw [if_pos c19] at hF
            obtain rfl := Option.some.inj hF
            refine rx_sub [0, 1, 2, 3] rfl ?_
            exact KJ8 _ b_B b_O fr
          · rw [if_neg c19] at hF
            refine rx_aload_n C dX8_writeQueue_31 0 rfl ?_
            refine rx_bipush C dX8_writeQueue_32 (32 : Int32) (by decide) ?_
            replace hF := rx_biE hF; obtain ⟨y20, e_y20, hF⟩ := hF
            refine rx_cv (rx_rV C (w_X8_writeByte e_y20 b_B b_O) Y_X8_writeByte V_X8_writeByte m_X8_361 (Or.inl ⟨_, _, _, _, b_B, rfl⟩) ⟨⟨rfl, rfl⟩, ⟨(Nat.le_of_ble_eq_true rfl), (Nat.le_of_ble_eq_true rfl)⟩, ⟨(Nat.le_of_ble_eq_true rfl), (Nat.le_of_ble_eq_true rfl)⟩⟩ rfl rfl (Nat.le_of_ble_eq_true rfl) dX8_writeQueue_34) (fun hh n1 hpp => ?_)
            obtain ⟨hn, c_B, c_O, ff⟩ := hpp
            replace hn : n = n1 := Eq.symm hn
            subst hn
            replace b_B : bB k b y20.1 hh := c_B
            clear c_B
            replace b_O : bO k (b + 203) y20.2 hh := c_O
            clear c_O
            replace ff : rx_fr [(b, 1), (b + 203, 1)] _ hh := ff
            replace b_s := b_s.keep ff ⟨s_s_B, s_s_O, trivial⟩
            replace b_p := b_p.keep ff ⟨s_p_B, s_p_O, trivial⟩
            replace b_w := b_w.keep ff ⟨s_w_B, s_w_O, trivial⟩
            replace b_e := b_e.keep ff ⟨s_e_B, s_e_O, trivial⟩
            replace fr := rx_frt fr ff (fun a ha => ⟨ha.1, ha.2.1, trivial⟩)
            obtain rfl := Option.some.inj hF
            refine rx_sub [0, 1, 2, 3] rfl ?_
            exact KJ8 _ b_B b_O fr
    refine rx_sub [2, 3, 1, 0] rfl ?_
    replace hF := rx_biE hF; obtain ⟨zl21, e_zl21, hF⟩ := hF
    refine loop5 _ zl21 _ _ _ _ e_zl21 b_B b_O b_s b_p b_w b_e fr (fun hh b_B b_O fr => ?_)
    have b_s := b0_s.keep fr ⟨s_s_B, s_s_O, trivial⟩
    have b_p := b0_p.keep fr ⟨s_p_B, s_p_O, trivial⟩
    have b_w := b0_w.keep fr ⟨s_w_B, s_w_O, trivial⟩
    have b_e := b0_e.keep fr ⟨s_e_B, s_e_O, trivial⟩
    refine rx_aload_n C dX8_writeQueue_89 0 rfl ?_
    refine rx_getf C f_X8_358 dX8_writeQueue_90 b_B rfl ?_
    obtain rfl := Option.some.inj hF
    exact rx_iret C dX8_writeQueue_93 (Nat.le_refl _) (Nat.le_refl _) ⟨rfl, rfl, b_B, b_O, fr⟩
  · rw [if_neg c2] at hF ⊢
    show rx_W _ _ _ _ _ _ _ _ _ _ _ _ _ _ _ _ _ _ _ _ (.ref (b + 21 + 10) :: _)
    refine rx_astore_n C dX8_writeQueue_11 (by decide) [(2, .ref (b + 21 + 10)), (0, .ref b), (1, .int x1)] rfl ?_
    refine rx_aload_n C dX8_writeQueue_12 1 rfl ?_
    refine rx_iconst C dX8_writeQueue_13 (0 : Int32) (by decide) ?_
    replace hF := rx_leE hF; obtain ⟨o_B_22, e_o_B_22, hF⟩ := hF
    refine rx_pB9 C f_X8_358 dX8_writeQueue_14 b_B e_o_B_22 (fun hh c_B ff => ?_)
    replace b_B := c_B
    replace b_s := b_s.keep ff ⟨s_s_B, trivial⟩
    replace b_p := b_p.keep ff ⟨s_p_B, trivial⟩
    replace b_w := b_w.keep ff ⟨s_w_B, trivial⟩
    replace b_e := b_e.keep ff ⟨s_e_B, trivial⟩
    replace b_O := b_O.keep ff ⟨s_O_B, trivial⟩
    replace fr := rx_frt fr ff (fun a ha => ⟨ha.1, trivial⟩)
    refine rx_iconst C dX8_writeQueue_17 (0 : Int32) (by decide) ?_
    refine rx_istore_n C dX8_writeQueue_18 (by decide) [(3, .int ((0 : Int32))), (2, .ref (b + 21 + 10)), (0, .ref b), (1, .int x1)] rfl ?_
    have loop24 : ∀ (fu : Nat) (zz : Int32 × ob × ob) (oB : ob) (oO : ob) (x3 : Int32) (hh : hp), F_X8_writeQueue_19_w os op ow oe x1 fu oB oO x3 = some zz → bB k b oB hh → bO k (b + 203) oO hh → bS k (b + 12) os hh → bP k (b + 21) (b + 12) op hh → bQ k (b + 21 + 10) ow hh → bQ k (b + 21 + 13) oe hh → rx_fr [(b, 1), (b + 203, 1)] h hh → (∀ hh : hp, bB k b zz.2.1 hh → bO k (b + 203) zz.2.2 hh → rx_fr [(b, 1), (b + 203, 1)] h hh → rx_W P9 l E9 (rx_rm 3 65) S9 M9 A9 B9 me9 c9 (MQ B9 (va_Qi (fun r u => y.1 = r ∧ u.2 = n ∧ bB k b y.2.1 u.1 ∧ bO k (b + 203) y.2.2 u.1 ∧ rx_fr [(b, 1), (b + 203, 1)] h u.1) (rx_B G k) (rx_A k)) A9 S9 0 0 (rx_A k)) G k 5 0 0 hh n 89 [(0, .ref b), (1, .int x1), (2, .ref (b + 21 + 10)), (3, .int zz.1)] []) → rx_W P9 l E9 (rx_rm 3 65) S9 M9 A9 B9 me9 c9 (MQ B9 (va_Qi (fun r u => y.1 = r ∧ u.2 = n ∧ bB k b y.2.1 u.1 ∧ bO k (b + 203) y.2.2 u.1 ∧ rx_fr [(b, 1), (b + 203, 1)] h u.1) (rx_B G k) (rx_A k)) A9 S9 0 0 (rx_A k)) G k 5 0 0 hh n 19 [(0, .ref b), (1, .int x1), (2, .ref (b + 21 + 10)), (3, .int x3)] [] := by
      intro fu
      induction fu with
      | zero => intro zz oB oO x3 hh hF b_B b_O b_s b_p b_w b_e fr KK; exact absurd hF (by simp [F_X8_writeQueue_19_w])
      | succ fu ih_loop24 =>
        intro zz oB oO x3 hh hF b_B b_O b_s b_p b_w b_e fr KK
        unfold F_X8_writeQueue_19_w at hF
        refine rx_iload_n C dX8_writeQueue_19 3 rfl ?_
        refine rx_aload_n C dX8_writeQueue_20 2 rfl ?_
        refine rx_getfN C f_X8_233 dX8_writeQueue_21 b_w.1 rfl ?_
        refine rx_icmp_ge C dX8_writeQueue_24 89 (by decide) (fun c25 => ?_) (fun c25 => ?_)
        · rw [if_pos c25] at hF
          obtain rfl := Option.some.inj hF
          refine rx_sub [0, 1, 2, 3] rfl ?_
          exact KK _ b_B b_O fr
        · rw [if_neg c25] at hF
          refine rx_iload_n C dX8_writeQueue_27 3 rfl ?_
          replace hF := rx_biE hF; obtain ⟨zj26, e_zj26, hF⟩ := hF
          have KJ27 : ∀ hh : hp, bB k b zj26.1 hh → bO k (b + 203) zj26.2 hh → rx_fr [(b, 1), (b + 203, 1)] h hh → rx_W P9 l E9 (rx_rm 3 65) S9 M9 A9 B9 me9 c9 (MQ B9 (va_Qi (fun r u => y.1 = r ∧ u.2 = n ∧ bB k b y.2.1 u.1 ∧ bO k (b + 203) y.2.2 u.1 ∧ rx_fr [(b, 1), (b + 203, 1)] h u.1) (rx_B G k) (rx_A k)) A9 S9 0 0 (rx_A k)) G k 5 0 0 hh n 37 [(0, .ref b), (1, .int x1), (2, .ref (b + 21 + 10)), (3, .int x3)] [] := by
            intro hh b_B b_O fr
            have b_s := b0_s.keep fr ⟨s_s_B, s_s_O, trivial⟩
            have b_p := b0_p.keep fr ⟨s_p_B, s_p_O, trivial⟩
            have b_w := b0_w.keep fr ⟨s_w_B, s_w_O, trivial⟩
            have b_e := b0_e.keep fr ⟨s_e_B, s_e_O, trivial⟩
            refine rx_aload_n C dX8_writeQueue_37 2 rfl ?_
            refine rx_iload_n C dX8_writeQueue_38 3 rfl ?_
            replace hF := rx_biE hF; obtain ⟨y28, e_y28, hF⟩ := hF
            refine rx_ci (rx_rVN C (w_X3_personAt e_y28 b_w) Y_X3_personAt V_X3_personAt m_X8_238 (Or.inl ⟨_, _, _, _, b_w.1, rfl⟩) ⟨⟨rfl, rfl⟩, ⟨(Nat.le_of_ble_eq_true rfl), (Nat.le_of_ble_eq_true rfl)⟩, ⟨(Nat.le_of_ble_eq_true rfl), (Nat.le_of_ble_eq_true rfl)⟩⟩ rfl rfl (Nat.le_of_ble_eq_true rfl) dX8_writeQueue_39) (fun r hh n1 hpp => ?_)
            obtain ⟨rfl, hu⟩ := hpp
            cases hu
            refine rx_istore C dX8_writeQueue_42 (by decide) [(4, .int y28), (0, .ref b), (1, .int x1), (2, .ref (b + 21 + 10)), (3, .int x3)] rfl ?_
            refine rx_aload_n C dX8_writeQueue_44 1 rfl ?_
            refine rx_iload C dX8_writeQueue_45 0 rfl ?_
            replace hF := rx_biE hF; obtain ⟨y29, e_y29, hF⟩ := hF
            refine rx_cv (rx_rV C (w_X8_writeNumber e_y29 b_B b_O) Y_X8_writeNumber V_X8_writeNumber m_X8_364 (Or.inl ⟨_, _, _, _, b_B, rfl⟩) ⟨⟨rfl, rfl⟩, ⟨(Nat.le_of_ble_eq_true rfl), (Nat.le_of_ble_eq_true rfl)⟩, ⟨(Nat.le_of_ble_eq_true rfl), (Nat.le_of_ble_eq_true rfl)⟩⟩ rfl rfl (Nat.le_of_ble_eq_true rfl) dX8_writeQueue_47) (fun hh n1 hpp => ?_)
            obtain ⟨hn, c_B, c_O, ff⟩ := hpp
            replace hn : n = n1 := Eq.symm hn
            subst hn
            replace b_B : bB k b y29.1 hh := c_B
            clear c_B
            replace b_O : bO k (b + 203) y29.2 hh := c_O
            clear c_O
            replace ff : rx_fr [(b, 1), (b + 203, 1)] _ hh := ff
            replace b_s := b_s.keep ff ⟨s_s_B, s_s_O, trivial⟩
            replace b_p := b_p.keep ff ⟨s_p_B, s_p_O, trivial⟩
            replace b_w := b_w.keep ff ⟨s_w_B, s_w_O, trivial⟩
            replace b_e := b_e.keep ff ⟨s_e_B, s_e_O, trivial⟩
            replace fr := rx_frt fr ff (fun a ha => ⟨ha.1, ha.2.1, trivial⟩)
            refine rx_aload_n C dX8_writeQueue_50 1 rfl ?_
            refine rx_bipush C dX8_writeQueue_51 (58 : Int32) (by decide) ?_
            replace hF := rx_biE hF; obtain ⟨y30, e_y30, hF⟩ := hF
            refine rx_cv (rx_rV C (w_X8_writeByte e_y30 b_B b_O) Y_X8_writeByte V_X8_writeByte m_X8_361 (Or.inl ⟨_, _, _, _, b_B, rfl⟩) ⟨⟨rfl, rfl⟩, ⟨(Nat.le_of_ble_eq_true rfl), (Nat.le_of_ble_eq_true rfl)⟩, ⟨(Nat.le_of_ble_eq_true rfl), (Nat.le_of_ble_eq_true rfl)⟩⟩ rfl rfl (Nat.le_of_ble_eq_true rfl) dX8_writeQueue_53) (fun hh n1 hpp => ?_)
            obtain ⟨hn, c_B, c_O, ff⟩ := hpp
            replace hn : n = n1 := Eq.symm hn
            subst hn
            replace b_B : bB k b y30.1 hh := c_B
            clear c_B
            replace b_O : bO k (b + 203) y30.2 hh := c_O
            clear c_O
            replace ff : rx_fr [(b, 1), (b + 203, 1)] _ hh := ff
            replace b_s := b_s.keep ff ⟨s_s_B, s_s_O, trivial⟩
            replace b_p := b_p.keep ff ⟨s_p_B, s_p_O, trivial⟩
            replace b_w := b_w.keep ff ⟨s_w_B, s_w_O, trivial⟩
            replace b_e := b_e.keep ff ⟨s_e_B, s_e_O, trivial⟩
            replace fr := rx_frt fr ff (fun a ha => ⟨ha.1, ha.2.1, trivial⟩)
            refine rx_aload_n C dX8_writeQueue_56 1 rfl ?_
            refine rx_aload_n C dX8_writeQueue_57 3 rfl ?_
            refine rx_iload_n C dX8_writeQueue_58 4 rfl ?_
            replace hF := rx_biE hF; obtain ⟨y31, e_y31, hF⟩ := hF
            refine rx_ci (rx_rVN C (w_X3_offerAt e_y31 b_w) Y_X3_offerAt V_X3_offerAt m_X8_367 (Or.inl ⟨_, _, _, _, b_w.1, rfl⟩) ⟨⟨rfl, rfl⟩, ⟨(Nat.le_of_ble_eq_true rfl), (Nat.le_of_ble_eq_true rfl)⟩, ⟨(Nat.le_of_ble_eq_true rfl), (Nat.le_of_ble_eq_true rfl)⟩⟩ rfl rfl (Nat.le_of_ble_eq_true rfl) dX8_writeQueue_59) (fun r hh n1 hpp => ?_)
            obtain ⟨rfl, hu⟩ := hpp
            cases hu
            replace hF := rx_biE hF; obtain ⟨y32, e_y32, hF⟩ := hF
            refine rx_cv (rx_rV C (w_X8_writeNumber e_y32 b_B b_O) Y_X8_writeNumber V_X8_writeNumber m_X8_364 (Or.inl ⟨_, _, _, _, b_B, rfl⟩) ⟨⟨rfl, rfl⟩, ⟨(Nat.le_of_ble_eq_true rfl), (Nat.le_of_ble_eq_true rfl)⟩, ⟨(Nat.le_of_ble_eq_true rfl), (Nat.le_of_ble_eq_true rfl)⟩⟩ rfl rfl (Nat.le_of_ble_eq_true rfl) dX8_writeQueue_62) (fun hh n1 hpp => ?_)
            obtain ⟨hn, c_B, c_O, ff⟩ := hpp
            replace hn : n = n1 := Eq.symm hn
            subst hn
            replace b_B : bB k b y32.1 hh := c_B
            clear c_B
            replace b_O : bO k (b + 203) y32.2 hh := c_O
            clear c_O
            replace ff : rx_fr [(b, 1), (b + 203, 1)] _ hh := ff
            replace b_s := b_s.keep ff ⟨s_s_B, s_s_O, trivial⟩
            replace b_p := b_p.keep ff ⟨s_p_B, s_p_O, trivial⟩
            replace b_w := b_w.keep ff ⟨s_w_B, s_w_O, trivial⟩
            replace b_e := b_e.keep ff ⟨s_e_B, s_e_O, trivial⟩
            replace fr := rx_frt fr ff (fun a ha => ⟨ha.1, ha.2.1, trivial⟩)
            refine rx_aload_n C dX8_writeQueue_65 1 rfl ?_
            refine rx_getf C f_X8_31 dX8_writeQueue_66 b_B rfl ?_
            refine rx_iload C dX8_writeQueue_69 0 rfl ?_
            replace hF := rx_biE hF; obtain ⟨y33, e_y33, hF⟩ := hF
            refine rx_ci (rx_rVN C (w_X2_looksKingly e_y33 b_p b_s (by omega)) Y_X2_looksKingly V_X2_looksKingly m_X8_193 (Or.inl ⟨_, _, _, _, b_p.1, rfl⟩) ⟨⟨rfl, rfl⟩, ⟨(Nat.le_of_ble_eq_true rfl), (Nat.le_of_ble_eq_true rfl)⟩, ⟨(Nat.le_of_ble_eq_true rfl), (Nat.le_of_ble_eq_true rfl)⟩⟩ rfl rfl (Nat.le_of_ble_eq_true rfl) dX8_writeQueue_71) (fun r hh n1 hpp => ?_)
            obtain ⟨rfl, bo_y33, hu⟩ := hpp
            cases hu
            replace hF := rx_biE hF; obtain ⟨zj34, e_zj34, hF⟩ := hF
            have KJ35 : ∀ hh : hp, bB k b zj34.1 hh → bO k (b + 203) zj34.2 hh → rx_fr [(b, 1), (b + 203, 1)] h hh → rx_W P9 l E9 (rx_rm 3 65) S9 M9 A9 B9 me9 c9 (MQ B9 (va_Qi (fun r u => y.1 = r ∧ u.2 = n ∧ bB k b y.2.1 u.1 ∧ bO k (b + 203) y.2.2 u.1 ∧ rx_fr [(b, 1), (b + 203, 1)] h u.1) (rx_B G k) (rx_A k)) A9 S9 0 0 (rx_A k)) G k 5 0 0 hh n 83 [(0, .ref b), (1, .int x1), (2, .ref (b + 21 + 10)), (3, .int x3), (4, .int y28)] [] := by
              intro hh b_B b_O fr
              have b_s := b0_s.keep fr ⟨s_s_B, s_s_O, trivial⟩
              have b_p := b0_p.keep fr ⟨s_p_B, s_p_O, trivial⟩
              have b_w := b0_w.keep fr ⟨s_w_B, s_w_O, trivial⟩
              have b_e := b0_e.keep fr ⟨s_e_B, s_e_O, trivial⟩
              refine rx_iinc C dX8_writeQueue_83 3 rfl (x3 + 1) rfl (by decide) [(3, .int ((x3 + 1))), (0, .ref b), (1, .int x1), (2, .ref (b + 21 + 10)), (4, .int y28)] rfl ?_
              refine rx_goto C dX8_writeQueue_86 19 (by decide) ?_
              refine rx_sub [1, 2, 3, 0] rfl ?_
              exact ih_loop24 _ _ _ _ _ hF b_B b_O b_s b_p b_w b_e fr KK
            replace hF := e_zj34
            clear e_zj34
            refine rx_if_eq C dX8_writeQueue_74 83 (by decide) (fun c36 => ?_) (fun c36 => ?_)
            · rw [if_pos c36] at hF
              obtain rfl := Option.some.inj hF
              refine rx_sub [1, 2, 3, 4, 0] rfl ?_
              exact KJ35 _ b_B b_O fr
            · rw [if_neg c36] at hF
              refine rx_aload_n C dX8_writeQueue_77 1 rfl ?_
              refine rx_bipush C dX8_writeQueue_78 (33 : Int32) (by decide) ?_
              replace hF := rx_biE hF; obtain ⟨y37, e_y37, hF⟩ := hF
              refine rx_cv (rx_rV C (w_X8_writeByte e_y37 b_B b_O) Y_X8_writeByte V_X8_writeByte m_X8_361 (Or.inl ⟨_, _, _, _, b_B, rfl⟩) ⟨⟨rfl, rfl⟩, ⟨(Nat.le_of_ble_eq_true rfl), (Nat.le_of_ble_eq_true rfl)⟩, ⟨(Nat.le_of_ble_eq_true rfl), (Nat.le_of_ble_eq_true rfl)⟩⟩ rfl rfl (Nat.le_of_ble_eq_true rfl) dX8_writeQueue_80) (fun hh n1 hpp => ?_)
              obtain ⟨hn, c_B, c_O, ff⟩ := hpp
              replace hn : n = n1 := Eq.symm hn
              subst hn
              replace b_B : bB k b y37.1 hh := c_B
              clear c_B
              replace b_O : bO k (b + 203) y37.2 hh := c_O
              clear c_O
              replace ff : rx_fr [(b, 1), (b + 203, 1)] _ hh := ff
              replace b_s := b_s.keep ff ⟨s_s_B, s_s_O, trivial⟩
              replace b_p := b_p.keep ff ⟨s_p_B, s_p_O, trivial⟩
              replace b_w := b_w.keep ff ⟨s_w_B, s_w_O, trivial⟩
              replace b_e := b_e.keep ff ⟨s_e_B, s_e_O, trivial⟩
              replace fr := rx_frt fr ff (fun a ha => ⟨ha.1, ha.2.1, trivial⟩)
              obtain rfl := Option.some.inj hF
              refine rx_sub [1, 2, 3, 4, 0] rfl ?_
              exact KJ35 _ b_B b_O fr
          replace hF := e_zj26
          clear e_zj26
          refine rx_if_le C dX8_writeQueue_28 37 (by decide) (fun c38 => ?_) (fun c38 => ?_)
          · rw [if_pos c38] at hF
            obtain rfl := Option.some.inj hF
            refine rx_sub [0, 1, 2, 3] rfl ?_
            exact KJ27 _ b_B b_O fr
          · rw [if_neg c38] at hF
            refine rx_aload_n C dX8_writeQueue_31 0 rfl ?_
            refine rx_bipush C dX8_writeQueue_32 (32 : Int32) (by decide) ?_
            replace hF := rx_biE hF; obtain ⟨y39, e_y39, hF⟩ := hF
            refine rx_cv (rx_rV C (w_X8_writeByte e_y39 b_B b_O) Y_X8_writeByte V_X8_writeByte m_X8_361 (Or.inl ⟨_, _, _, _, b_B, rfl⟩) ⟨⟨rfl, rfl⟩, ⟨(Nat.le_of_ble_eq_true rfl), (Nat.le_of_ble_eq_true rfl)⟩, ⟨(Nat.le_of_ble_eq_true rfl), (Nat.le_of_ble_eq_true rfl)⟩⟩ rfl rfl (Nat.le_of_ble_eq_true rfl) dX8_writeQueue_34) (fun hh n1 hpp => ?_)
            obtain ⟨hn, c_B, c_O, ff⟩ := hpp
            replace hn : n = n1 := Eq.symm hn
            subst hn
            replace b_B : bB k b y39.1 hh := c_B
            clear c_B
            replace b_O : bO k (b + 203) y39.2 hh := c_O
            clear c_O
            replace ff : rx_fr [(b, 1), (b + 203, 1)] _ hh := ff
            replace b_s := b_s.keep ff ⟨s_s_B, s_s_O, trivial⟩
            replace b_p := b_p.keep ff ⟨s_p_B, s_p_O, trivial⟩
            replace b_w := b_w.keep ff ⟨s_w_B, s_w_O, trivial⟩
            replace b_e := b_e.keep ff ⟨s_e_B, s_e_O, trivial⟩
            replace fr := rx_frt fr ff (fun a ha => ⟨ha.1, ha.2.1, trivial⟩)
            obtain rfl := Option.some.inj hF
            refine rx_sub [0, 1, 2, 3] rfl ?_
            exact KJ27 _ b_B b_O fr
    refine rx_sub [2, 3, 1, 0] rfl ?_
    replace hF := rx_biE hF; obtain ⟨zl40, e_zl40, hF⟩ := hF
    refine loop24 _ zl40 _ _ _ _ e_zl40 b_B b_O b_s b_p b_w b_e fr (fun hh b_B b_O fr => ?_)
    have b_s := b0_s.keep fr ⟨s_s_B, s_s_O, trivial⟩
    have b_p := b0_p.keep fr ⟨s_p_B, s_p_O, trivial⟩
    have b_w := b0_w.keep fr ⟨s_w_B, s_w_O, trivial⟩
    have b_e := b0_e.keep fr ⟨s_e_B, s_e_O, trivial⟩
    refine rx_aload_n C dX8_writeQueue_89 0 rfl ?_
    refine rx_getf C f_X8_358 dX8_writeQueue_90 b_B rfl ?_
    obtain rfl := Option.some.inj hF
    exact rx_iret C dX8_writeQueue_93 (Nat.le_refl _) (Nat.le_refl _) ⟨rfl, rfl, b_B, b_O, fr⟩
def F_X8_outputByte (oB : ob) (oO : ob) (x1 : Int32) : Option (Int32 × Int32) := if x1 < (0 : Int32) then (some ((1 : Int32), (0 : Int32))) else (if x1 < (oB.1 9) then (some ((0 : Int32), (rx_at 64 (oO.2 0) x1))) else (some ((1 : Int32), (0 : Int32))))
set_option maxRecDepth 100000 in
set_option maxHeartbeats 4000000 in
theorem w_X8_outputByte {b : Nat} {oB : ob} {oO : ob} {x1 : Int32} {y : Int32 × Int32} (hst : l.stackTraces = false) (hF : F_X8_outputByte oB oO x1 = some y) (b_B : bB k b oB h) (b_O : bO k (b + 203) oO h) : vx_Met l yX8_outputByte (rx_ws yX8_outputByte cX8_outputByte 2 (some .int)) (rx_rmX 6 82 1 6) (va_Pc [.ref b, .int x1] (rx_G G k h n)) (va_Qi (fun r u => y.1 = 0 ∧ y.2 = r ∧ u = (h, n)) (rx_B G k) (rx_A k)) (rx_XC G k (fun E u => ¬ y.1 = 0 ∧ E = rx_ex y.1 ∧ u.1 = h ∧ n ≤ u.2)) 1 6 (rx_A k) := by
  refine rx_startX [(0, .ref b), (1, .int x1)] rfl (Nat.le_of_ble_eq_true rfl) (by decide) (fun P9 E9 S9 M9 A9 B9 me9 c9 C hno => ?_)
  unfold F_X8_outputByte at hF
  refine rx_iload_n C dX8_outputByte_0 1 rfl ?_
  refine rx_if_lt C dX8_outputByte_1 12 (by decide) (fun c1 => ?_) (fun c1 => ?_)
  · rw [if_pos c1] at hF
    obtain rfl := Option.some.inj hF
    exact rx_throwW (t := 14) C hst XW_247_251 (List.mem_of_getElem? (i := 14) rfl) hno dX8_outputByte_12 dX8_outputByte_15 dX8_outputByte_16 dX8_outputByte_19 dX8_outputByte_22 (Nat.le_of_ble_eq_true rfl) (Nat.le_of_ble_eq_true rfl) (Nat.le_of_ble_eq_true rfl) (Nat.le_of_ble_eq_true rfl) (Nat.le_of_ble_eq_true rfl) (Nat.le_of_ble_eq_true rfl) (fun n1 hn1 => ⟨(show ¬ (1 : Int32) = 0 by decide), rfl, rfl, hn1⟩)
  · rw [if_neg c1] at hF
    refine rx_iload_n C dX8_outputByte_4 1 rfl ?_
    refine rx_aload_n C dX8_outputByte_5 0 rfl ?_
    refine rx_getf C f_X8_358 dX8_outputByte_6 b_B rfl ?_
    refine rx_icmp_lt C dX8_outputByte_9 23 (by decide) (fun c2 => ?_) (fun c2 => ?_)
    · rw [if_pos c2] at hF
      refine rx_aload_n C dX8_outputByte_23 0 rfl ?_
      refine rx_getf C f_X8_55 dX8_outputByte_24 b_B rfl ?_
      refine rx_iload_n C dX8_outputByte_27 1 rfl ?_
      refine rx_ci (rx_rS C (w_at b_O (by decide)) Y_X8_at S_X8_at m_X8_136 ⟨⟨rfl, rfl⟩, ⟨(Nat.le_of_ble_eq_true rfl), (Nat.le_of_ble_eq_true rfl)⟩, ⟨(Nat.le_of_ble_eq_true rfl), (Nat.le_of_ble_eq_true rfl)⟩⟩ rfl rfl (Nat.le_of_ble_eq_true rfl) dX8_outputByte_28) (fun r hh n1 hpp => ?_)
      obtain ⟨rfl, hu⟩ := hpp
      cases hu
      obtain rfl := Option.some.inj hF
      exact rx_xret (rx_iret C dX8_outputByte_31 (Nat.le_of_ble_eq_true rfl) (Nat.le_of_ble_eq_true rfl) ⟨rfl, rfl, rfl⟩)
    · rw [if_neg c2] at hF
      obtain rfl := Option.some.inj hF
      exact rx_throwW (t := 14) C hst XW_247_251 (List.mem_of_getElem? (i := 14) rfl) hno dX8_outputByte_12 dX8_outputByte_15 dX8_outputByte_16 dX8_outputByte_19 dX8_outputByte_22 (Nat.le_of_ble_eq_true rfl) (Nat.le_of_ble_eq_true rfl) (Nat.le_of_ble_eq_true rfl) (Nat.le_of_ble_eq_true rfl) (Nat.le_of_ble_eq_true rfl) (Nat.le_of_ble_eq_true rfl) (fun n1 hn1 => ⟨(show ¬ (1 : Int32) = 0 by decide), rfl, rfl, hn1⟩)
def F_X8_undoableCount (oB : ob) (oH : hst) : Option (Int32) := some ((oH.1.1 2))
set_option maxRecDepth 100000 in
set_option maxHeartbeats 4000000 in
theorem w_X8_undoableCount {b : Nat} {oB : ob} {oH : hst} {y : Int32} (hF : F_X8_undoableCount oB oH = some y) (b_B : bB k b oB h) (b_H : bHH k (b + 69) (b + 12) oH h) : Met l yX8_undoableCount (rx_ws yX8_undoableCount cX8_undoableCount 1 (some .int)) (rx_rm 0 0) (va_Pc [.ref b] (rx_G G k h n)) (va_Qi (fun r u => y = r ∧ u = (h, n)) (rx_B G k) (rx_A k)) 0 0 (rx_A k) := by
  refine rx_start [(0, .ref b)] rfl (Nat.le_of_ble_eq_true rfl) (by decide) rfl (fun P9 E9 S9 M9 A9 B9 me9 c9 C hname => ?_)
  unfold F_X8_undoableCount at hF
  refine rx_aload_n C dX8_undoableCount_0 0 rfl ?_
  refine rx_getf C f_X8_44 dX8_undoableCount_1 b_B rfl ?_
  refine rx_getfN C f_X8_372 dX8_undoableCount_4 b_H.1.1 rfl ?_
  obtain rfl := Option.some.inj hF
  exact rx_iret C dX8_undoableCount_7 (Nat.le_refl _) (Nat.le_refl _) ⟨rfl, rfl⟩
def F_X8_undo (oB : ob) (op : ob) (ow : ob) (oe : ob) (oH : hst) : Option (Int32 × Int32 × ob × ob × ob × hst) := if (oH.1.1 2) = (0 : Int32) then (some ((3 : Int32), (0 : Int32), op, ow, oe, oH)) else ((F_X1_pop oH op ow oe).bind fun y2 => some ((0 : Int32), (y2.1.1.1 2), y2.2.1, y2.2.2.1, y2.2.2.2, y2.1))
set_option maxRecDepth 100000 in
set_option maxHeartbeats 4000000 in
theorem w_X8_undo {b : Nat} {oB : ob} {op : ob} {ow : ob} {oe : ob} {oH : hst} {y : Int32 × Int32 × ob × ob × ob × hst} (hst : l.stackTraces = false) (hF : F_X8_undo oB op ow oe oH = some y) (b_B : bB k b oB h) (b_p : bP k (b + 21) (b + 12) op h) (b_w : bQ k (b + 21 + 10) ow h) (b_e : bQ k (b + 21 + 13) oe h) (b_H : bHH k (b + 69) (b + 12) oH h) : vx_Met l yX8_undo (rx_ws yX8_undo cX8_undo 1 (some .int)) (rx_rmX 6 126 1 6) (va_Pc [.ref b] (rx_G G k h n)) (va_Qi (fun r u => y.1 = 0 ∧ y.2.1 = r ∧ u.2 = n ∧ bP k (b + 21) (b + 12) y.2.2.1 u.1 ∧ bQ k (b + 21 + 10) y.2.2.2.1 u.1 ∧ bQ k (b + 21 + 13) y.2.2.2.2.1 u.1 ∧ bHH k (b + 69) (b + 12) y.2.2.2.2.2 u.1 ∧ rx_fr [(b + 21, 10), (b + 21 + 10, 3), (b + 21 + 13, 3), (b + 69, 130)] h u.1) (rx_B G k) (rx_A k)) (rx_XC G k (fun E u => ¬ y.1 = 0 ∧ E = rx_ex y.1 ∧ u.1 = h ∧ n ≤ u.2)) 1 6 (rx_A k) := by
  have s_B_H : b + 1 ≤ b + 69 ∨ b + 69 + 130 ≤ b := by omega
  have s_B_p : b + 1 ≤ b + 21 ∨ b + 21 + 10 ≤ b := by omega
  have s_B_w : b + 1 ≤ b + 21 + 10 ∨ b + 21 + 10 + 3 ≤ b := by omega
  have s_B_e : b + 1 ≤ b + 21 + 13 ∨ b + 21 + 13 + 3 ≤ b := by omega
  refine rx_startX [(0, .ref b)] rfl (Nat.le_of_ble_eq_true rfl) (by decide) (fun P9 E9 S9 M9 A9 B9 me9 c9 C hno => ?_)
  unfold F_X8_undo at hF
  have fr : rx_fr [(b + 21, 10), (b + 21 + 10, 3), (b + 21 + 13, 3), (b + 69, 130)] h h := rx_fr0
  refine rx_aload_n C dX8_undo_0 0 rfl ?_
  refine rx_getf C f_X8_44 dX8_undo_1 b_B rfl ?_
  refine rx_getfN C f_X8_372 dX8_undo_4 b_H.1.1 rfl ?_
  refine rx_if_ne C dX8_undo_7 21 (by decide) (fun c1 => ?_) (fun c1 => ?_)
  · rw [if_neg c1] at hF
    refine rx_aload_n C dX8_undo_21 0 rfl ?_
    refine rx_getf C f_X8_44 dX8_undo_22 b_B rfl ?_
    refine rx_aload_n C dX8_undo_25 0 rfl ?_
    refine rx_getf C f_X8_31 dX8_undo_26 b_B rfl ?_
    replace hF := rx_biE hF; obtain ⟨y2, e_y2, hF⟩ := hF
    refine rx_cv (rx_rVN C (w_X1_pop e_y2 b_H b_p b_w b_e (by omega)) Y_X1_pop V_X1_pop m_X8_380 (Or.inl ⟨_, _, _, _, b_H.1.1, rfl⟩) ⟨⟨rfl, rfl⟩, ⟨(Nat.le_of_ble_eq_true rfl), (Nat.le_of_ble_eq_true rfl)⟩, ⟨(Nat.le_of_ble_eq_true rfl), (Nat.le_of_ble_eq_true rfl)⟩⟩ rfl rfl (Nat.le_of_ble_eq_true rfl) dX8_undo_29) (fun hh n1 hpp => ?_)
    obtain ⟨hn, c_H, c_p, c_w, c_e, ff⟩ := hpp
    replace hn : n = n1 := Eq.symm hn
    subst hn
    replace b_H : bHH k (b + 69) (b + 12) y2.1 hh := c_H
    clear c_H
    replace b_p : bP k (b + 21) (b + 12) y2.2.1 hh := c_p
    clear c_p
    replace b_w : bQ k (b + 21 + 10) y2.2.2.1 hh := c_w
    clear c_w
    replace b_e : bQ k (b + 21 + 13) y2.2.2.2 hh := c_e
    clear c_e
    replace ff : rx_fr [(b + 69, 130), (b + 21, 10), (b + 21 + 10, 3), (b + 21 + 13, 3)] _ hh := ff
    replace b_B := b_B.keep ff ⟨s_B_H, s_B_p, s_B_w, s_B_e, trivial⟩
    replace fr := rx_frt fr ff (fun a ha => ⟨ha.2.2.2.1, ha.1, ha.2.1, ha.2.2.1, trivial⟩)
    refine rx_aload_n C dX8_undo_32 0 rfl ?_
    refine rx_getf C f_X8_44 dX8_undo_33 b_B rfl ?_
    refine rx_getfN C f_X8_372 dX8_undo_36 b_H.1.1 rfl ?_
    obtain rfl := Option.some.inj hF
    exact rx_xret (rx_iret C dX8_undo_39 (Nat.le_of_ble_eq_true rfl) (Nat.le_of_ble_eq_true rfl) ⟨rfl, rfl, rfl, b_p, b_w, b_e, b_H, fr⟩)
  · rw [if_pos c1] at hF
    obtain rfl := Option.some.inj hF
    exact rx_throwW (t := 15) C hst XW_375_379 (List.mem_of_getElem? (i := 15) rfl) hno dX8_undo_10 dX8_undo_13 dX8_undo_14 dX8_undo_17 dX8_undo_20 (Nat.le_of_ble_eq_true rfl) (Nat.le_of_ble_eq_true rfl) (Nat.le_of_ble_eq_true rfl) (Nat.le_of_ble_eq_true rfl) (Nat.le_of_ble_eq_true rfl) (Nat.le_of_ble_eq_true rfl) (fun n1 hn1 => ⟨(show ¬ (3 : Int32) = 0 by decide), rfl, rfl, hn1⟩)
def F_X8_saveSnapshot (oB : ob) (op : ob) (ow : ob) (oe : ob) (onp : ob) (onw : ob) (one : ob) : Option (ob × ob × ob × ob) := (F_X2_copyFrom onp onw one op ow oe).bind fun y1 => rx_le (upd oB.1 10 ((1 : Int32)), oB.2) fun o_B_2 => some (o_B_2, y1.1, y1.2.1, y1.2.2)
set_option maxRecDepth 100000 in
set_option maxHeartbeats 4000000 in
theorem w_X8_saveSnapshot {b : Nat} {oB : ob} {op : ob} {ow : ob} {oe : ob} {onp : ob} {onw : ob} {one : ob} {y : ob × ob × ob × ob} (hF : F_X8_saveSnapshot oB op ow oe onp onw one = some y) (b_B : bB k b oB h) (b_p : bP k (b + 21) (b + 12) op h) (b_w : bQ k (b + 21 + 10) ow h) (b_e : bQ k (b + 21 + 13) oe h) (b_np : bP k (b + 53) (b + 12) onp h) (b_nw : bQ k (b + 53 + 10) onw h) (b_ne : bQ k (b + 53 + 13) one h) : Met l yX8_saveSnapshot (rx_ws yX8_saveSnapshot cX8_saveSnapshot 1 none) (rx_rm 4 103) (va_Pc [.ref b] (rx_G G k h n)) (va_Qv (fun u => u.2 = n ∧ bB k b y.1 u.1 ∧ bP k (b + 53) (b + 12) y.2.1 u.1 ∧ bQ k (b + 53 + 10) y.2.2.1 u.1 ∧ bQ k (b + 53 + 13) y.2.2.2 u.1 ∧ rx_fr [(b, 1), (b + 53, 10), (b + 53 + 10, 3), (b + 53 + 13, 3)] h u.1) (rx_B G k) (rx_A k)) 0 0 (rx_A k) := by
  have s_B_np : b + 1 ≤ b + 53 ∨ b + 53 + 10 ≤ b := by omega
  have s_B_nw : b + 1 ≤ b + 53 + 10 ∨ b + 53 + 10 + 3 ≤ b := by omega
  have s_B_ne : b + 1 ≤ b + 53 + 13 ∨ b + 53 + 13 + 3 ≤ b := by omega
  have s_p_np : b + 21 + 10 ≤ b + 53 ∨ b + 53 + 10 ≤ b + 21 := by omega
  have s_p_nw : b + 21 + 10 ≤ b + 53 + 10 ∨ b + 53 + 10 + 3 ≤ b + 21 := by omega
  have s_p_ne : b + 21 + 10 ≤ b + 53 + 13 ∨ b + 53 + 13 + 3 ≤ b + 21 := by omega
  have s_w_np : b + 21 + 10 + 3 ≤ b + 53 ∨ b + 53 + 10 ≤ b + 21 + 10 := by omega
  have s_w_nw : b + 21 + 10 + 3 ≤ b + 53 + 10 ∨ b + 53 + 10 + 3 ≤ b + 21 + 10 := by omega
  have s_w_ne : b + 21 + 10 + 3 ≤ b + 53 + 13 ∨ b + 53 + 13 + 3 ≤ b + 21 + 10 := by omega
  have s_e_np : b + 21 + 13 + 3 ≤ b + 53 ∨ b + 53 + 10 ≤ b + 21 + 13 := by omega
  have s_e_nw : b + 21 + 13 + 3 ≤ b + 53 + 10 ∨ b + 53 + 10 + 3 ≤ b + 21 + 13 := by omega
  have s_e_ne : b + 21 + 13 + 3 ≤ b + 53 + 13 ∨ b + 53 + 13 + 3 ≤ b + 21 + 13 := by omega
  have s_p_B : b + 21 + 10 ≤ b ∨ b + 1 ≤ b + 21 := by omega
  have s_w_B : b + 21 + 10 + 3 ≤ b ∨ b + 1 ≤ b + 21 + 10 := by omega
  have s_e_B : b + 21 + 13 + 3 ≤ b ∨ b + 1 ≤ b + 21 + 13 := by omega
  have s_np_B : b + 53 + 10 ≤ b ∨ b + 1 ≤ b + 53 := by omega
  have s_nw_B : b + 53 + 10 + 3 ≤ b ∨ b + 1 ≤ b + 53 + 10 := by omega
  have s_ne_B : b + 53 + 13 + 3 ≤ b ∨ b + 1 ≤ b + 53 + 13 := by omega
  refine rx_start [(0, .ref b)] rfl (Nat.le_of_ble_eq_true rfl) (by decide) rfl (fun P9 E9 S9 M9 A9 B9 me9 c9 C hname => ?_)
  unfold F_X8_saveSnapshot at hF
  have fr : rx_fr [(b, 1), (b + 53, 10), (b + 53 + 10, 3), (b + 53 + 13, 3)] h h := rx_fr0
  refine rx_aload_n C dX8_saveSnapshot_0 0 rfl ?_
  refine rx_getf C f_X8_38 dX8_saveSnapshot_1 b_B rfl ?_
  refine rx_aload_n C dX8_saveSnapshot_4 0 rfl ?_
  refine rx_getf C f_X8_31 dX8_saveSnapshot_5 b_B rfl ?_
  replace hF := rx_biE hF; obtain ⟨y1, e_y1, hF⟩ := hF
  refine rx_cv (rx_rVN C (w_X2_copyFrom e_y1 b_np b_nw b_ne b_p b_w b_e (by omega)) Y_X2_copyFrom V_X2_copyFrom m_X8_262 (Or.inl ⟨_, _, _, _, b_np.1, rfl⟩) ⟨⟨rfl, rfl⟩, ⟨(Nat.le_of_ble_eq_true rfl), (Nat.le_of_ble_eq_true rfl)⟩, ⟨(Nat.le_of_ble_eq_true rfl), (Nat.le_of_ble_eq_true rfl)⟩⟩ rfl rfl (Nat.le_of_ble_eq_true rfl) dX8_saveSnapshot_8) (fun hh n1 hpp => ?_)
  obtain ⟨hn, c_np, c_nw, c_ne, ff⟩ := hpp
  replace hn : n = n1 := Eq.symm hn
  subst hn
  replace b_np : bP k (b + 53) (b + 12) y1.1 hh := c_np
  clear c_np
  replace b_nw : bQ k (b + 53 + 10) y1.2.1 hh := c_nw
  clear c_nw
  replace b_ne : bQ k (b + 53 + 13) y1.2.2 hh := c_ne
  clear c_ne
  replace ff : rx_fr [(b + 53, 10), (b + 53 + 10, 3), (b + 53 + 13, 3)] _ hh := ff
  replace b_B := b_B.keep ff ⟨s_B_np, s_B_nw, s_B_ne, trivial⟩
  replace b_p := b_p.keep ff ⟨s_p_np, s_p_nw, s_p_ne, trivial⟩
  replace b_w := b_w.keep ff ⟨s_w_np, s_w_nw, s_w_ne, trivial⟩
  replace b_e := b_e.keep ff ⟨s_e_np, s_e_nw, s_e_ne, trivial⟩
  replace fr := rx_frt fr ff (fun a ha => ⟨ha.2.1, ha.2.2.1, ha.2.2.2.1, trivial⟩)
  refine rx_aload_n C dX8_saveSnapshot_11 0 rfl ?_
  refine rx_iconst C dX8_saveSnapshot_12 (1 : Int32) (by decide) ?_
  replace hF := rx_leE hF; obtain ⟨o_B_2, e_o_B_2, hF⟩ := hF
  refine rx_pB10 C f_X8_107 dX8_saveSnapshot_13 b_B e_o_B_2 (Or.inr rfl) (fun hh c_B ff => ?_)
  replace b_B := c_B
  replace b_p := b_p.keep ff ⟨s_p_B, trivial⟩
  replace b_w := b_w.keep ff ⟨s_w_B, trivial⟩
  replace b_e := b_e.keep ff ⟨s_e_B, trivial⟩
  replace b_np := b_np.keep ff ⟨s_np_B, trivial⟩
  replace b_nw := b_nw.keep ff ⟨s_nw_B, trivial⟩
  replace b_ne := b_ne.keep ff ⟨s_ne_B, trivial⟩
  replace fr := rx_frt fr ff (fun a ha => ⟨ha.1, trivial⟩)
  obtain rfl := Option.some.inj hF
  exact rx_vret C dX8_saveSnapshot_16 (Nat.le_refl _) (Nat.le_refl _) ⟨rfl, b_B, b_np, b_nw, b_ne, fr⟩
def F_X8_restoreSnapshot (oB : ob) (op : ob) (ow : ob) (oe : ob) (onp : ob) (onw : ob) (one : ob) (oH : hst) : Option (Int32 × Int32 × ob × ob × ob × hst) := if (oB.1 10) = (0 : Int32) then (some ((3 : Int32), (0 : Int32), op, ow, oe, oH)) else ((F_X2_copyFrom op ow oe onp onw one).bind fun y2 => (F_X1_clear oH).bind fun y3 => some ((0 : Int32), (y2.1.1 1), y2.1, y2.2.1, y2.2.2, y3))
set_option maxRecDepth 100000 in
set_option maxHeartbeats 4000000 in
theorem w_X8_restoreSnapshot {b : Nat} {oB : ob} {op : ob} {ow : ob} {oe : ob} {onp : ob} {onw : ob} {one : ob} {oH : hst} {y : Int32 × Int32 × ob × ob × ob × hst} (hst : l.stackTraces = false) (hF : F_X8_restoreSnapshot oB op ow oe onp onw one oH = some y) (b_B : bB k b oB h) (b_p : bP k (b + 21) (b + 12) op h) (b_w : bQ k (b + 21 + 10) ow h) (b_e : bQ k (b + 21 + 13) oe h) (b_np : bP k (b + 53) (b + 12) onp h) (b_nw : bQ k (b + 53 + 10) onw h) (b_ne : bQ k (b + 53 + 13) one h) (b_H : bHH k (b + 69) (b + 12) oH h) : vx_Met l yX8_restoreSnapshot (rx_ws yX8_restoreSnapshot cX8_restoreSnapshot 1 (some .int)) (rx_rmX 6 103 1 6) (va_Pc [.ref b] (rx_G G k h n)) (va_Qi (fun r u => y.1 = 0 ∧ y.2.1 = r ∧ u.2 = n ∧ bP k (b + 21) (b + 12) y.2.2.1 u.1 ∧ bQ k (b + 21 + 10) y.2.2.2.1 u.1 ∧ bQ k (b + 21 + 13) y.2.2.2.2.1 u.1 ∧ bHH k (b + 69) (b + 12) y.2.2.2.2.2 u.1 ∧ rx_fr [(b + 21, 10), (b + 21 + 10, 3), (b + 21 + 13, 3), (b + 69, 130)] h u.1) (rx_B G k) (rx_A k)) (rx_XC G k (fun E u => ¬ y.1 = 0 ∧ E = rx_ex y.1 ∧ u.1 = h ∧ n ≤ u.2)) 1 6 (rx_A k) := by
  have s_B_p : b + 1 ≤ b + 21 ∨ b + 21 + 10 ≤ b := by omega
  have s_B_w : b + 1 ≤ b + 21 + 10 ∨ b + 21 + 10 + 3 ≤ b := by omega
  have s_B_e : b + 1 ≤ b + 21 + 13 ∨ b + 21 + 13 + 3 ≤ b := by omega
  have s_np_p : b + 53 + 10 ≤ b + 21 ∨ b + 21 + 10 ≤ b + 53 := by omega
  have s_np_w : b + 53 + 10 ≤ b + 21 + 10 ∨ b + 21 + 10 + 3 ≤ b + 53 := by omega
  have s_np_e : b + 53 + 10 ≤ b + 21 + 13 ∨ b + 21 + 13 + 3 ≤ b + 53 := by omega
  have s_nw_p : b + 53 + 10 + 3 ≤ b + 21 ∨ b + 21 + 10 ≤ b + 53 + 10 := by omega
  have s_nw_w : b + 53 + 10 + 3 ≤ b + 21 + 10 ∨ b + 21 + 10 + 3 ≤ b + 53 + 10 := by omega
  have s_nw_e : b + 53 + 10 + 3 ≤ b + 21 + 13 ∨ b + 21 + 13 + 3 ≤ b + 53 + 10 := by omega
  have s_ne_p : b + 53 + 13 + 3 ≤ b + 21 ∨ b + 21 + 10 ≤ b + 53 + 13 := by omega
  have s_ne_w : b + 53 + 13 + 3 ≤ b + 21 + 10 ∨ b + 21 + 10 + 3 ≤ b + 53 + 13 := by omega
  have s_ne_e : b + 53 + 13 + 3 ≤ b + 21 + 13 ∨ b + 21 + 13 + 3 ≤ b + 53 + 13 := by omega
  have s_H_p : b + 69 + 130 ≤ b + 21 ∨ b + 21 + 10 ≤ b + 69 := by omega
  have s_H_w : b + 69 + 130 ≤ b + 21 + 10 ∨ b + 21 + 10 + 3 ≤ b + 69 := by omega
  have s_H_e : b + 69 + 130 ≤ b + 21 + 13 ∨ b + 21 + 13 + 3 ≤ b + 69 := by omega
  have s_B_H : b + 1 ≤ b + 69 ∨ b + 69 + 130 ≤ b := by omega
  have s_p_H : b + 21 + 10 ≤ b + 69 ∨ b + 69 + 130 ≤ b + 21 := by omega
  have s_w_H : b + 21 + 10 + 3 ≤ b + 69 ∨ b + 69 + 130 ≤ b + 21 + 10 := by omega
  have s_e_H : b + 21 + 13 + 3 ≤ b + 69 ∨ b + 69 + 130 ≤ b + 21 + 13 := by omega
  have s_np_H : b + 53 + 10 ≤ b + 69 ∨ b + 69 + 130 ≤ b + 53 := by omega
  have s_nw_H : b + 53 + 10 + 3 ≤ b + 69 ∨ b + 69 + 130 ≤ b + 53 + 10 := by omega
  have s_ne_H : b + 53 + 13 + 3 ≤ b + 69 ∨ b + 69 + 130 ≤ b + 53 + 13 := by omega
  refine rx_startX [(0, .ref b)] rfl (Nat.le_of_ble_eq_true rfl) (by decide) (fun P9 E9 S9 M9 A9 B9 me9 c9 C hno => ?_)
  unfold F_X8_restoreSnapshot at hF
  have fr : rx_fr [(b + 21, 10), (b + 21 + 10, 3), (b + 21 + 13, 3), (b + 69, 130)] h h := rx_fr0
  refine rx_aload_n C dX8_restoreSnapshot_0 0 rfl ?_
  refine rx_getf C f_X8_107 dX8_restoreSnapshot_1 b_B rfl ?_
  refine rx_if_ne C dX8_restoreSnapshot_4 18 (by decide) (fun c1 => ?_) (fun c1 => ?_)
  · rw [if_neg c1] at hF
    refine rx_aload_n C dX8_restoreSnapshot_18 0 rfl ?_
    refine rx_getf C f_X8_31 dX8_restoreSnapshot_19 b_B rfl ?_
    refine rx_aload_n C dX8_restoreSnapshot_22 0 rfl ?_
    refine rx_getf C f_X8_38 dX8_restoreSnapshot_23 b_B rfl ?_
    replace hF := rx_biE hF; obtain ⟨y2, e_y2, hF⟩ := hF
    refine rx_cv (rx_rVN C (w_X2_copyFrom e_y2 b_p b_w b_e b_np b_nw b_ne (by omega)) Y_X2_copyFrom V_X2_copyFrom m_X8_262 (Or.inl ⟨_, _, _, _, b_p.1, rfl⟩) ⟨⟨rfl, rfl⟩, ⟨(Nat.le_of_ble_eq_true rfl), (Nat.le_of_ble_eq_true rfl)⟩, ⟨(Nat.le_of_ble_eq_true rfl), (Nat.le_of_ble_eq_true rfl)⟩⟩ rfl rfl (Nat.le_of_ble_eq_true rfl) dX8_restoreSnapshot_26) (fun hh n1 hpp => ?_)
    obtain ⟨hn, c_p, c_w, c_e, ff⟩ := hpp
    replace hn : n = n1 := Eq.symm hn
    subst hn
    replace b_p : bP k (b + 21) (b + 12) y2.1 hh := c_p
    clear c_p
    replace b_w : bQ k (b + 21 + 10) y2.2.1 hh := c_w
    clear c_w
    replace b_e : bQ k (b + 21 + 13) y2.2.2 hh := c_e
    clear c_e
    replace ff : rx_fr [(b + 21, 10), (b + 21 + 10, 3), (b + 21 + 13, 3)] _ hh := ff
    replace b_B := b_B.keep ff ⟨s_B_p, s_B_w, s_B_e, trivial⟩
    replace b_np := b_np.keep ff ⟨s_np_p, s_np_w, s_np_e, trivial⟩
    replace b_nw := b_nw.keep ff ⟨s_nw_p, s_nw_w, s_nw_e, trivial⟩
    replace b_ne := b_ne.keep ff ⟨s_ne_p, s_ne_w, s_ne_e, trivial⟩
    replace b_H := b_H.keep ff ⟨s_H_p, s_H_w, s_H_e, trivial⟩
    replace fr := rx_frt fr ff (fun a ha => ⟨ha.1, ha.2.1, ha.2.2.1, trivial⟩)
    refine rx_aload_n C dX8_restoreSnapshot_29 0 rfl ?_
    refine rx_getf C f_X8_44 dX8_restoreSnapshot_30 b_B rfl ?_
    replace hF := rx_biE hF; obtain ⟨y3, e_y3, hF⟩ := hF
    refine rx_cv (rx_rVN C (w_X1_clear e_y3 b_H) Y_X1_clear V_X1_clear m_X8_104 (Or.inl ⟨_, _, _, _, b_H.1.1, rfl⟩) ⟨⟨rfl, rfl⟩, ⟨(Nat.le_of_ble_eq_true rfl), (Nat.le_of_ble_eq_true rfl)⟩, ⟨(Nat.le_of_ble_eq_true rfl), (Nat.le_of_ble_eq_true rfl)⟩⟩ rfl rfl (Nat.le_of_ble_eq_true rfl) dX8_restoreSnapshot_33) (fun hh n1 hpp => ?_)
    obtain ⟨hn, c_H, ff⟩ := hpp
    replace hn : n = n1 := Eq.symm hn
    subst hn
    replace b_H : bHH k (b + 69) (b + 12) y3 hh := c_H
    clear c_H
    replace ff : rx_fr [(b + 69, 130)] _ hh := ff
    replace b_B := b_B.keep ff ⟨s_B_H, trivial⟩
    replace b_p := b_p.keep ff ⟨s_p_H, trivial⟩
    replace b_w := b_w.keep ff ⟨s_w_H, trivial⟩
    replace b_e := b_e.keep ff ⟨s_e_H, trivial⟩
    replace b_np := b_np.keep ff ⟨s_np_H, trivial⟩
    replace b_nw := b_nw.keep ff ⟨s_nw_H, trivial⟩
    replace b_ne := b_ne.keep ff ⟨s_ne_H, trivial⟩
    replace fr := rx_frt fr ff (fun a ha => ⟨ha.2.2.2.1, trivial⟩)
    refine rx_aload_n C dX8_restoreSnapshot_36 0 rfl ?_
    refine rx_getf C f_X8_31 dX8_restoreSnapshot_37 b_B rfl ?_
    refine rx_getfN C f_X8_120 dX8_restoreSnapshot_40 b_p.1 rfl ?_
    obtain rfl := Option.some.inj hF
    exact rx_xret (rx_iret C dX8_restoreSnapshot_43 (Nat.le_of_ble_eq_true rfl) (Nat.le_of_ble_eq_true rfl) ⟨rfl, rfl, rfl, b_p, b_w, b_e, b_H, fr⟩)
  · rw [if_pos c1] at hF
    obtain rfl := Option.some.inj hF
    exact rx_throwW (t := 16) C hst XW_375_379 (List.mem_of_getElem? (i := 16) rfl) hno dX8_restoreSnapshot_7 dX8_restoreSnapshot_10 dX8_restoreSnapshot_11 dX8_restoreSnapshot_14 dX8_restoreSnapshot_17 (Nat.le_of_ble_eq_true rfl) (Nat.le_of_ble_eq_true rfl) (Nat.le_of_ble_eq_true rfl) (Nat.le_of_ble_eq_true rfl) (Nat.le_of_ble_eq_true rfl) (Nat.le_of_ble_eq_true rfl) (fun n1 hn1 => ⟨(show ¬ (3 : Int32) = 0 by decide), rfl, rfl, hn1⟩)
end GEN
