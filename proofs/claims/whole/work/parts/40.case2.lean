section LAWC
variable {l : Launch} {G : va_G} {k : Nat → Nat} {h : hp} {n : Nat} {P9 : Program} {E9 : Env} {S9 : State} {M9 : MethodId} {A9 : Array Value} {B9 : List Frame} {me9 : Method} {c9 : Code} {Q9 : State → Prop} {ret9 : Option FieldType} {sc len : Nat} {xs : Nat → Int32} {x4 : Int32} {cells slots : Nat}
def F_case_31 (oB : ob) (os : ob) (op : ob) (om : ob) (oL : (Nat → Int64)) (a1 : Int32) : Option (ob × (Nat → Int64)) := (F_L_royalCoins oB os op oL a1).bind fun y1 => (F_X9_royalCoins om a1).bind fun y2 => (F_X9_thrown y2.2).bind fun y3 => if y3 = y1.1 then (if y1.1 = (0 : Int32) then (if (lg_cmp ((y1.2 0)) y2.1.toInt64) = (0 : Int32) then (some (y2.2, y1.2)) else (none)) else (some (y2.2, y1.2))) else (none)
set_option maxRecDepth 100000 in
set_option maxHeartbeats 4000000 in
theorem lc_31 {b : Nat} {oB : ob} {os : ob} {op : ob} {om : ob} {oL : (Nat → Int64)} {a1 : Int32} {y : ob × (Nat → Int64)} (hst : l.stackTraces = false) (hF : F_case_31 oB os op om oL a1 = some y) (C : rx_C G k P9 M9 c9 cL_law RL 9 ret9 S9 A9 me9) (hN : rx_NC S9) (hX : va_X sc len xs S9 S9.heap) (hbl : sc < S9.heap.size) (hbA : ¬ k 0 ≤ sc) (h1 : vp_in (x4 + (1 : Int32)) len ∧ xs (x4 + (1 : Int32)).toNatClampNeg = a1) (hcl : cells + 3 ≤ 601024) (hsl : slots + 18 ≤ 7293034) (b_B : bB k b oB h) (b_s : bS k (b + 12) os h) (b_p : bP k (b + 21) (b + 12) op h) (b_m : bM k (b + 204) om h) (b_L : bL k (b + 213) oL h) (KK : ∀ (hh : hp) (n1 : Nat), n ≤ n1 → bM k (b + 204) y.1 hh → bL k (b + 213) y.2 hh → rx_fr [(b + 204, 9), (b + 213, 1)] h hh → rx_W P9 l E9 room_1 S9 M9 A9 B9 me9 c9 Q9 G k 9 (cells + 3) (slots + 18) hh n1 3126 [(0, .ref sc), (1, .ref b), (2, .ref (b + 204)), (3, .ref (b + 213)), (4, .int x4)] []) : rx_W P9 l E9 room_1 S9 M9 A9 B9 me9 c9 Q9 G k 9 cells slots h n 1629 [(0, .ref sc), (1, .ref b), (2, .ref (b + 204)), (3, .ref (b + 213)), (4, .int x4)] [] := by
  have s_B_L : b + 1 ≤ b + 213 ∨ b + 213 + 1 ≤ b := by omega
  have s_s_L : b + 12 + 9 ≤ b + 213 ∨ b + 213 + 1 ≤ b + 12 := by omega
  have s_p_L : b + 21 + 10 ≤ b + 213 ∨ b + 213 + 1 ≤ b + 21 := by omega
  have s_m_L : b + 204 + 9 ≤ b + 213 ∨ b + 213 + 1 ≤ b + 204 := by omega
  have s_B_m : b + 1 ≤ b + 204 ∨ b + 204 + 9 ≤ b := by omega
  have s_s_m : b + 12 + 9 ≤ b + 204 ∨ b + 204 + 9 ≤ b + 12 := by omega
  have s_p_m : b + 21 + 10 ≤ b + 204 ∨ b + 204 + 9 ≤ b + 21 := by omega
  have s_L_m : b + 213 + 1 ≤ b + 204 ∨ b + 204 + 9 ≤ b + 213 := by omega
  unfold F_case_31 at hF
  have fr : rx_fr [(b + 204, 9), (b + 213, 1)] h h := rx_fr0
  refine rx_aload_n C dL_law_1629 1 rfl ?_
  refine rx_aload_n C dL_law_1630 0 rfl ?_
  refine rx_iload C dL_law_1631 4 rfl ?_
  refine rx_iconst C dL_law_1633 (1 : Int32) (by decide) ?_
  refine rx_iadd C dL_law_1634 ?_
  refine rx_sld C hX hbl hbA h1 dL_law_1635 ?_
  refine rx_aload_n C dL_law_1636 3 rfl ?_
  replace hF := rx_biE hF; obtain ⟨y1, e_y1, hF⟩ := hF
  refine rx_xci (rx_rSX C hN (w_L_royalCoins hst e_y1 b_B b_s b_p b_L (by omega)) Y_L_royalCoins S_L_royalCoins m_L_254 ⟨⟨rfl, rfl⟩, ⟨(Nat.le_of_ble_eq_true rfl), (Nat.le_of_ble_eq_true rfl)⟩, ⟨by show _ ≤ 601024; omega, by show _ ≤ 7293034; omega⟩⟩ rfl rfl (Nat.le_of_ble_eq_true rfl) dL_law_1637) (fun E hh n1 hx => hx.elim) (fun r hh n hpp => ?_)
  obtain ⟨rfl, hn0, c_L, ff⟩ := hpp
  replace b_L : bL k (b + 213) y1.2 hh := c_L
  clear c_L
  replace ff : rx_fr [(b + 213, 1)] _ hh := ff
  replace b_B := b_B.keep ff ⟨s_B_L, trivial⟩
  replace b_s := b_s.keep ff ⟨s_s_L, trivial⟩
  replace b_p := b_p.keep ff ⟨s_p_L, trivial⟩
  replace b_m := b_m.keep ff ⟨s_m_L, trivial⟩
  replace fr := rx_frt fr ff (fun a ha => ⟨ha.2.1, trivial⟩)
  refine rx_istore C dL_law_1640 (by decide) [(5, .int y1.1), (0, .ref sc), (1, .ref b), (2, .ref (b + 204)), (3, .ref (b + 213)), (4, .int x4)] rfl ?_
  refine rx_aload_n C dL_law_1642 3 rfl ?_
  refine rx_aload_n C dL_law_1643 1 rfl ?_
  refine rx_iload C dL_law_1644 5 rfl ?_
  refine rx_iconst C dL_law_1646 (1 : Int32) (by decide) ?_
  refine rx_iadd C dL_law_1647 ?_
  refine rx_sld C hX hbl hbA h1 dL_law_1648 ?_
  replace hF := rx_biE hF; obtain ⟨y2, e_y2, hF⟩ := hF
  refine rx_ci (rx_rV C (w_X9_royalCoins e_y2 b_m) Y_X9_royalCoins V_X9_royalCoins m_L_256 (Or.inl ⟨_, _, _, _, b_m.1, rfl⟩) ⟨⟨rfl, rfl⟩, ⟨(Nat.le_of_ble_eq_true rfl), (Nat.le_of_ble_eq_true rfl)⟩, ⟨by show _ ≤ 601024; omega, by show _ ≤ 7293034; omega⟩⟩ rfl rfl (Nat.le_of_ble_eq_true rfl) dL_law_1649) (fun r hh n1 hpp => ?_)
  obtain ⟨rfl, hn, c_m, ff⟩ := hpp
  replace hn : n = n1 := Eq.symm hn
  subst hn
  replace b_m : bM k (b + 204) y2.2 hh := c_m
  clear c_m
  replace ff : rx_fr [(b + 204, 9)] _ hh := ff
  replace b_B := b_B.keep ff ⟨s_B_m, trivial⟩
  replace b_s := b_s.keep ff ⟨s_s_m, trivial⟩
  replace b_p := b_p.keep ff ⟨s_p_m, trivial⟩
  replace b_L := b_L.keep ff ⟨s_L_m, trivial⟩
  replace fr := rx_frt fr ff (fun a ha => ⟨ha.1, trivial⟩)
  refine rx_istore C dL_law_1652 (by decide) [(6, .int y2.1), (5, .int y1.1), (0, .ref sc), (1, .ref b), (2, .ref (b + 204)), (3, .ref (b + 213)), (4, .int x4)] rfl ?_
  refine rx_aload_n C dL_law_1654 4 rfl ?_
  replace hF := rx_biE hF; obtain ⟨y3, e_y3, hF⟩ := hF
  refine rx_ci (rx_rV C (w_X9_thrown e_y3 b_m) Y_X9_thrown V_X9_thrown m_L_148 (Or.inl ⟨_, _, _, _, b_m.1, rfl⟩) ⟨⟨rfl, rfl⟩, ⟨(Nat.le_of_ble_eq_true rfl), (Nat.le_of_ble_eq_true rfl)⟩, ⟨by show _ ≤ 601024; omega, by show _ ≤ 7293034; omega⟩⟩ rfl rfl (Nat.le_of_ble_eq_true rfl) dL_law_1655) (fun r hh n1 hpp => ?_)
  obtain ⟨rfl, hu⟩ := hpp
  cases hu
  refine rx_iload C dL_law_1658 1 rfl ?_
  refine rx_icmp_eq C dL_law_1660 1665 (by decide) (fun c4 => ?_) (fun c4 => ?_)
  · rw [if_pos c4] at hF
    refine rx_iload C dL_law_1665 1 rfl ?_
    refine rx_if_ne C dL_law_1667 1682 (by decide) (fun c5 => ?_) (fun c5 => ?_)
    · rw [if_neg c5] at hF
      refine rx_goto C dL_law_1682 3126 (by decide) ?_
      obtain rfl := Option.some.inj hF
      refine rx_sub [2, 3, 4, 5, 6] rfl ?_
      exact rx_wide (cells + 3) (slots + 18) (by omega) (by omega) (KK _ _ (hn0) b_m b_L fr)
    · rw [if_pos c5] at hF
      refine rx_aload_n C dL_law_1670 5 rfl ?_
      refine rx_iconst C dL_law_1671 (0 : Int32) (by decide) ?_
      refine rx_ldL C dL_law_1672 b_L ?_
      refine rx_iload C dL_law_1673 0 rfl ?_
      refine rx_i2l C dL_law_1675 ?_
      refine rx_lcmp C dL_law_1676 ?_
      refine rx_if_eq C dL_law_1677 1682 (by decide) (fun c6 => ?_) (fun c6 => ?_)
      · rw [if_pos c6] at hF
        refine rx_goto C dL_law_1682 3126 (by decide) ?_
        obtain rfl := Option.some.inj hF
        refine rx_sub [2, 3, 4, 5, 6] rfl ?_
        exact rx_wide (cells + 3) (slots + 18) (by omega) (by omega) (KK _ _ (hn0) b_m b_L fr)
      · rw [if_neg c6] at hF
        refine rx_iconst C dL_law_1680 (0 : Int32) (by decide) ?_
        cases hF
  · rw [if_neg c4] at hF
    refine rx_iconst C dL_law_1663 (0 : Int32) (by decide) ?_
    cases hF
def F_case_32 (oB : ob) (os : ob) (op : ob) (om : ob) : Option (ob) := (F_X8_countedRoyalCoins oB os op).bind fun y1 => (F_X9_countedRoyalCoins om).bind fun y2 => if y1 = y2.1 then (some y2.2) else (none)
set_option maxRecDepth 100000 in
set_option maxHeartbeats 4000000 in
theorem lc_32 {b : Nat} {oB : ob} {os : ob} {op : ob} {om : ob} {y : ob} (hst : l.stackTraces = false) (hF : F_case_32 oB os op om = some y) (C : rx_C G k P9 M9 c9 cL_law RL 9 ret9 S9 A9 me9) (hN : rx_NC S9) (hX : va_X sc len xs S9 S9.heap) (hbl : sc < S9.heap.size) (hbA : ¬ k 0 ≤ sc) (hcl : cells + 3 ≤ 601024) (hsl : slots + 18 ≤ 7293034) (b_B : bB k b oB h) (b_s : bS k (b + 12) os h) (b_p : bP k (b + 21) (b + 12) op h) (b_m : bM k (b + 204) om h) (KK : ∀ (hh : hp) (n1 : Nat), n ≤ n1 → bM k (b + 204) y hh → rx_fr [(b + 204, 9)] h hh → rx_W P9 l E9 room_1 S9 M9 A9 B9 me9 c9 Q9 G k 9 (cells + 3) (slots + 18) hh n1 3126 [(0, .ref sc), (1, .ref b), (2, .ref (b + 204)), (3, .ref (b + 213)), (4, .int x4)] []) : rx_W P9 l E9 room_1 S9 M9 A9 B9 me9 c9 Q9 G k 9 cells slots h n 1685 [(0, .ref sc), (1, .ref b), (2, .ref (b + 204)), (3, .ref (b + 213)), (4, .int x4)] [] := by
  have s_B_m : b + 1 ≤ b + 204 ∨ b + 204 + 9 ≤ b := by omega
  have s_s_m : b + 12 + 9 ≤ b + 204 ∨ b + 204 + 9 ≤ b + 12 := by omega
  have s_p_m : b + 21 + 10 ≤ b + 204 ∨ b + 204 + 9 ≤ b + 21 := by omega
  unfold F_case_32 at hF
  have fr : rx_fr [(b + 204, 9)] h h := rx_fr0
  refine rx_aload_n C dL_law_1685 1 rfl ?_
  replace hF := rx_biE hF; obtain ⟨y1, e_y1, hF⟩ := hF
  refine rx_ci (rx_rV C (w_X8_countedRoyalCoins e_y1 b_B b_s b_p) Y_X8_countedRoyalCoins V_X8_countedRoyalCoins m_L_257 (Or.inl ⟨_, _, _, _, b_B, rfl⟩) ⟨⟨rfl, rfl⟩, ⟨(Nat.le_of_ble_eq_true rfl), (Nat.le_of_ble_eq_true rfl)⟩, ⟨by show _ ≤ 601024; omega, by show _ ≤ 7293034; omega⟩⟩ rfl rfl (Nat.le_of_ble_eq_true rfl) dL_law_1686) (fun r hh n1 hpp => ?_)
  obtain ⟨rfl, hu⟩ := hpp
  cases hu
  refine rx_aload_n C dL_law_1689 2 rfl ?_
  replace hF := rx_biE hF; obtain ⟨y2, e_y2, hF⟩ := hF
  refine rx_ci (rx_rV C (w_X9_countedRoyalCoins e_y2 b_m) Y_X9_countedRoyalCoins V_X9_countedRoyalCoins m_L_260 (Or.inl ⟨_, _, _, _, b_m.1, rfl⟩) ⟨⟨rfl, rfl⟩, ⟨(Nat.le_of_ble_eq_true rfl), (Nat.le_of_ble_eq_true rfl)⟩, ⟨by show _ ≤ 601024; omega, by show _ ≤ 7293034; omega⟩⟩ rfl rfl (Nat.le_of_ble_eq_true rfl) dL_law_1690) (fun r hh n1 hpp => ?_)
  obtain ⟨rfl, hn, c_m, ff⟩ := hpp
  replace hn : n = n1 := Eq.symm hn
  subst hn
  replace b_m : bM k (b + 204) y2.2 hh := c_m
  clear c_m
  replace ff : rx_fr [(b + 204, 9)] _ hh := ff
  replace b_B := b_B.keep ff ⟨s_B_m, trivial⟩
  replace b_s := b_s.keep ff ⟨s_s_m, trivial⟩
  replace b_p := b_p.keep ff ⟨s_p_m, trivial⟩
  replace fr := rx_frt fr ff (fun a ha => ⟨ha.1, trivial⟩)
  refine rx_icmp_eq C dL_law_1693 3126 (by decide) (fun c3 => ?_) (fun c3 => ?_)
  · rw [if_pos c3] at hF
    obtain rfl := Option.some.inj hF
    exact rx_wide (cells + 3) (slots + 18) (by omega) (by omega) (KK _ _ (Nat.le_refl _) b_m fr)
  · rw [if_neg c3] at hF
    refine rx_iconst C dL_law_1696 (0 : Int32) (by decide) ?_
    cases hF
def F_case_33 (oB : ob) (os : ob) (op : ob) (om : ob) : Option (ob) := (F_X8_countedShare oB os op).bind fun y1 => (rx_f2v y1).bind fun v2 => (F_X9_countedShare om).bind fun y3 => (rx_f2v y3.1).bind fun v4 => if (Op.cmpValue (FP.dcmp v2 v4) .l) = (0 : Int32) then (some y3.2) else (if (Op.cmpValue (FP.dcmp v2 v2) .l) = (0 : Int32) then (none) else (if (Op.cmpValue (FP.dcmp v4 v4) .l) = (0 : Int32) then (none) else (some y3.2)))
set_option maxRecDepth 100000 in
set_option maxHeartbeats 4000000 in
theorem lc_33 {b : Nat} {oB : ob} {os : ob} {op : ob} {om : ob} {y : ob} (hst : l.stackTraces = false) (hF : F_case_33 oB os op om = some y) (C : rx_C G k P9 M9 c9 cL_law RL 9 ret9 S9 A9 me9) (hN : rx_NC S9) (hX : va_X sc len xs S9 S9.heap) (hbl : sc < S9.heap.size) (hbA : ¬ k 0 ≤ sc) (hcl : cells + 3 ≤ 601024) (hsl : slots + 18 ≤ 7293034) (b_B : bB k b oB h) (b_s : bS k (b + 12) os h) (b_p : bP k (b + 21) (b + 12) op h) (b_m : bM k (b + 204) om h) (KK : ∀ (hh : hp) (n1 : Nat), n ≤ n1 → bM k (b + 204) y hh → rx_fr [(b + 204, 9)] h hh → rx_W P9 l E9 room_1 S9 M9 A9 B9 me9 c9 Q9 G k 9 (cells + 3) (slots + 18) hh n1 3126 [(0, .ref sc), (1, .ref b), (2, .ref (b + 204)), (3, .ref (b + 213)), (4, .int x4)] []) : rx_W P9 l E9 room_1 S9 M9 A9 B9 me9 c9 Q9 G k 9 cells slots h n 1698 [(0, .ref sc), (1, .ref b), (2, .ref (b + 204)), (3, .ref (b + 213)), (4, .int x4)] [] := by
  have s_B_m : b + 1 ≤ b + 204 ∨ b + 204 + 9 ≤ b := by omega
  have s_s_m : b + 12 + 9 ≤ b + 204 ∨ b + 204 + 9 ≤ b + 12 := by omega
  have s_p_m : b + 21 + 10 ≤ b + 204 ∨ b + 204 + 9 ≤ b + 21 := by omega
  unfold F_case_33 at hF
  have fr : rx_fr [(b + 204, 9)] h h := rx_fr0
  refine rx_aload_n C dL_law_1698 1 rfl ?_
  replace hF := rx_biE hF; obtain ⟨y1, e_y1, hF⟩ := hF
  refine rx_cf (rx_rV C (w_X8_countedShare e_y1 b_B b_s b_p) Y_X8_countedShare V_X8_countedShare m_L_261 (Or.inl ⟨_, _, _, _, b_B, rfl⟩) ⟨⟨rfl, rfl⟩, ⟨(Nat.le_of_ble_eq_true rfl), (Nat.le_of_ble_eq_true rfl)⟩, ⟨by show _ ≤ 601024; omega, by show _ ≤ 7293034; omega⟩⟩ rfl rfl (Nat.le_of_ble_eq_true rfl) dL_law_1699) (fun r hh n1 hpp => ?_)
  obtain ⟨rfl, hu⟩ := hpp
  cases hu
  replace hF := rx_biE hF; obtain ⟨v2, e_v2, hF⟩ := hF
  refine rx_f2dF C dL_law_1702 e_v2 ?_
  refine rx_dstore C dL_law_1703 (by decide) [(5, .double v2), (0, .ref sc), (1, .ref b), (2, .ref (b + 204)), (3, .ref (b + 213)), (4, .int x4)] rfl ?_
  refine rx_aload_n C dL_law_1705 3 rfl ?_
  replace hF := rx_biE hF; obtain ⟨y3, e_y3, hF⟩ := hF
  refine rx_cf (rx_rV C (w_X9_countedShare e_y3 b_m) Y_X9_countedShare V_X9_countedShare m_L_265 (Or.inl ⟨_, _, _, _, b_m.1, rfl⟩) ⟨⟨rfl, rfl⟩, ⟨(Nat.le_of_ble_eq_true rfl), (Nat.le_of_ble_eq_true rfl)⟩, ⟨by show _ ≤ 601024; omega, by show _ ≤ 7293034; omega⟩⟩ rfl rfl (Nat.le_of_ble_eq_true rfl) dL_law_1706) (fun r hh n1 hpp => ?_)
  obtain ⟨rfl, hn, c_m, ff⟩ := hpp
  replace hn : n = n1 := Eq.symm hn
  subst hn
  replace b_m : bM k (b + 204) y3.2 hh := c_m
  clear c_m
  replace ff : rx_fr [(b + 204, 9)] _ hh := ff
  replace b_B := b_B.keep ff ⟨s_B_m, trivial⟩
  replace b_s := b_s.keep ff ⟨s_s_m, trivial⟩
  replace b_p := b_p.keep ff ⟨s_p_m, trivial⟩
  replace fr := rx_frt fr ff (fun a ha => ⟨ha.1, trivial⟩)
  replace hF := rx_biE hF; obtain ⟨v4, e_v4, hF⟩ := hF
  refine rx_f2dF C dL_law_1709 e_v4 ?_
  refine rx_dstore C dL_law_1710 (by decide) [(7, .double v4), (5, .double v2), (0, .ref sc), (1, .ref b), (2, .ref (b + 204)), (3, .ref (b + 213)), (4, .int x4)] rfl ?_
  refine rx_dload C dL_law_1712 1 rfl ?_
  refine rx_dload C dL_law_1714 0 rfl ?_
  refine rx_dcmp C dL_law_1716 ?_
  refine rx_if_eq C dL_law_1717 1738 (by decide) (fun c5 => ?_) (fun c5 => ?_)
  · rw [if_pos c5] at hF
    refine rx_goto C dL_law_1738 3126 (by decide) ?_
    obtain rfl := Option.some.inj hF
    refine rx_sub [2, 3, 4, 5, 6] rfl ?_
    exact rx_wide (cells + 3) (slots + 18) (by omega) (by omega) (KK _ _ (Nat.le_refl _) b_m fr)
  · rw [if_neg c5] at hF
    refine rx_dload C dL_law_1720 1 rfl ?_
    refine rx_dload C dL_law_1722 1 rfl ?_
    refine rx_dcmp C dL_law_1724 ?_
    refine rx_if_eq C dL_law_1725 1736 (by decide) (fun c6 => ?_) (fun c6 => ?_)
    · rw [if_pos c6] at hF
      refine rx_iconst C dL_law_1736 (0 : Int32) (by decide) ?_
      cases hF
    · rw [if_neg c6] at hF
      refine rx_dload C dL_law_1728 0 rfl ?_
      refine rx_dload C dL_law_1730 0 rfl ?_
      refine rx_dcmp C dL_law_1732 ?_
      refine rx_if_ne C dL_law_1733 1738 (by decide) (fun c7 => ?_) (fun c7 => ?_)
      · rw [if_neg c7] at hF
        refine rx_goto C dL_law_1738 3126 (by decide) ?_
        obtain rfl := Option.some.inj hF
        refine rx_sub [2, 3, 4, 5, 6] rfl ?_
        exact rx_wide (cells + 3) (slots + 18) (by omega) (by omega) (KK _ _ (Nat.le_refl _) b_m fr)
      · rw [if_pos c7] at hF
        refine rx_iconst C dL_law_1736 (0 : Int32) (by decide) ?_
        cases hF
def F_case_34 (oB : ob) (op : ob) (ow : ob) (oe : ob) (om : ob) (a1 : Int32) : Option (ob) := if a1 = (0 : Int32) then ((F_X8_queueLength oB op ow oe ((0 : Int32))).bind fun y2 => if a1 = (0 : Int32) then ((F_X9_queueLength om ((0 : Int32))).bind fun y4 => if y2 = y4.1 then (some y4.2) else (none)) else ((F_X9_queueLength om ((1 : Int32))).bind fun y6 => if y2 = y6.1 then (some y6.2) else (none))) else ((F_X8_queueLength oB op ow oe ((1 : Int32))).bind fun y8 => if a1 = (0 : Int32) then ((F_X9_queueLength om ((0 : Int32))).bind fun y11 => if y8 = y11.1 then (some y11.2) else (none)) else ((F_X9_queueLength om ((1 : Int32))).bind fun y13 => if y8 = y13.1 then (some y13.2) else (none)))
set_option maxRecDepth 100000 in
set_option maxHeartbeats 4000000 in
theorem lc_34 {b : Nat} {oB : ob} {op : ob} {ow : ob} {oe : ob} {om : ob} {a1 : Int32} {y : ob} (hst : l.stackTraces = false) (hF : F_case_34 oB op ow oe om a1 = some y) (C : rx_C G k P9 M9 c9 cL_law RL 9 ret9 S9 A9 me9) (hN : rx_NC S9) (hX : va_X sc len xs S9 S9.heap) (hbl : sc < S9.heap.size) (hbA : ¬ k 0 ≤ sc) (h1 : vp_in (x4 + (1 : Int32)) len ∧ xs (x4 + (1 : Int32)).toNatClampNeg = a1) (hcl : cells + 3 ≤ 601024) (hsl : slots + 18 ≤ 7293034) (b_B : bB k b oB h) (b_p : bP k (b + 21) (b + 12) op h) (b_w : bQ k (b + 21 + 10) ow h) (b_e : bQ k (b + 21 + 13) oe h) (b_m : bM k (b + 204) om h) (KK : ∀ (hh : hp) (n1 : Nat), n ≤ n1 → bM k (b + 204) y hh → rx_fr [(b + 204, 9)] h hh → rx_W P9 l E9 room_1 S9 M9 A9 B9 me9 c9 Q9 G k 9 (cells + 3) (slots + 18) hh n1 3126 [(0, .ref sc), (1, .ref b), (2, .ref (b + 204)), (3, .ref (b + 213)), (4, .int x4)] []) : rx_W P9 l E9 room_1 S9 M9 A9 B9 me9 c9 Q9 G k 9 cells slots h n 1741 [(0, .ref sc), (1, .ref b), (2, .ref (b + 204)), (3, .ref (b + 213)), (4, .int x4)] [] := by
  have s_B_m : b + 1 ≤ b + 204 ∨ b + 204 + 9 ≤ b := by omega
  have s_p_m : b + 21 + 10 ≤ b + 204 ∨ b + 204 + 9 ≤ b + 21 := by omega
  have s_w_m : b + 21 + 10 + 3 ≤ b + 204 ∨ b + 204 + 9 ≤ b + 21 + 10 := by omega
  have s_e_m : b + 21 + 13 + 3 ≤ b + 204 ∨ b + 204 + 9 ≤ b + 21 + 13 := by omega
  unfold F_case_34 at hF
  have fr : rx_fr [(b + 204, 9)] h h := rx_fr0
  refine rx_aload_n C dL_law_1741 1 rfl ?_
  refine rx_aload_n C dL_law_1742 0 rfl ?_
  refine rx_iload C dL_law_1743 4 rfl ?_
  refine rx_iconst C dL_law_1745 (1 : Int32) (by decide) ?_
  refine rx_iadd C dL_law_1746 ?_
  refine rx_sld C hX hbl hbA h1 dL_law_1747 ?_
  refine rx_if_eq C dL_law_1748 1755 (by decide) (fun c1 => ?_) (fun c1 => ?_)
  · rw [if_pos c1] at hF
    refine rx_iconst C dL_law_1755 (0 : Int32) (by decide) ?_
    replace hF := rx_biE hF; obtain ⟨y2, e_y2, hF⟩ := hF
    refine rx_ci (rx_rV C (w_X8_queueLength e_y2 b_B b_p b_w b_e) Y_X8_queueLength V_X8_queueLength m_L_266 (Or.inl ⟨_, _, _, _, b_B, rfl⟩) ⟨⟨rfl, rfl⟩, ⟨(Nat.le_of_ble_eq_true rfl), (Nat.le_of_ble_eq_true rfl)⟩, ⟨by show _ ≤ 601024; omega, by show _ ≤ 7293034; omega⟩⟩ rfl rfl (Nat.le_of_ble_eq_true rfl) dL_law_1756) (fun r hh n1 hpp => ?_)
    obtain ⟨rfl, hu⟩ := hpp
    cases hu
    refine rx_aload_n C dL_law_1759 2 rfl ?_
    refine rx_aload_n C dL_law_1760 0 rfl ?_
    refine rx_iload C dL_law_1761 4 rfl ?_
    refine rx_iconst C dL_law_1763 (1 : Int32) (by decide) ?_
    refine rx_iadd C dL_law_1764 ?_
    refine rx_sld C hX hbl hbA h1 dL_law_1765 ?_
    refine rx_if_eq C dL_law_1766 1773 (by decide) (fun c3 => ?_) (fun c3 => ?_)
    · rw [if_pos c3] at hF
      refine rx_iconst C dL_law_1773 (0 : Int32) (by decide) ?_
      replace hF := rx_biE hF; obtain ⟨y4, e_y4, hF⟩ := hF
      refine rx_ci (rx_rV C (w_X9_queueLength e_y4 b_m) Y_X9_queueLength V_X9_queueLength m_L_269 (Or.inl ⟨_, _, _, _, b_m.1, rfl⟩) ⟨⟨rfl, rfl⟩, ⟨(Nat.le_of_ble_eq_true rfl), (Nat.le_of_ble_eq_true rfl)⟩, ⟨by show _ ≤ 601024; omega, by show _ ≤ 7293034; omega⟩⟩ rfl rfl (Nat.le_of_ble_eq_true rfl) dL_law_1774) (fun r hh n1 hpp => ?_)
      obtain ⟨rfl, hn, c_m, ff⟩ := hpp
      replace hn : n = n1 := Eq.symm hn
      subst hn
      replace b_m : bM k (b + 204) y4.2 hh := c_m
      clear c_m
      replace ff : rx_fr [(b + 204, 9)] _ hh := ff
      replace b_B := b_B.keep ff ⟨s_B_m, trivial⟩
      replace b_p := b_p.keep ff ⟨s_p_m, trivial⟩
      replace b_w := b_w.keep ff ⟨s_w_m, trivial⟩
      replace b_e := b_e.keep ff ⟨s_e_m, trivial⟩
      replace fr := rx_frt fr ff (fun a ha => ⟨ha.1, trivial⟩)
      refine rx_icmp_eq C dL_law_1777 3126 (by decide) (fun c5 => ?_) (fun c5 => ?_)
      · rw [if_pos c5] at hF
        obtain rfl := Option.some.inj hF
        exact rx_wide (cells + 3) (slots + 18) (by omega) (by omega) (KK _ _ (Nat.le_refl _) b_m fr)
      · rw [if_neg c5] at hF
        refine rx_iconst C dL_law_1780 (0 : Int32) (by decide) ?_
        cases hF
    · rw [if_neg c3] at hF
      refine rx_iconst C dL_law_1769 (1 : Int32) (by decide) ?_
      refine rx_goto C dL_law_1770 1774 (by decide) ?_
      replace hF := rx_biE hF; obtain ⟨y6, e_y6, hF⟩ := hF
      refine rx_ci (rx_rV C (w_X9_queueLength e_y6 b_m) Y_X9_queueLength V_X9_queueLength m_L_269 (Or.inl ⟨_, _, _, _, b_m.1, rfl⟩) ⟨⟨rfl, rfl⟩, ⟨(Nat.le_of_ble_eq_true rfl), (Nat.le_of_ble_eq_true rfl)⟩, ⟨by show _ ≤ 601024; omega, by show _ ≤ 7293034; omega⟩⟩ rfl rfl (Nat.le_of_ble_eq_true rfl) dL_law_1774) (fun r hh n1 hpp => ?_)
      obtain ⟨rfl, hn, c_m, ff⟩ := hpp
      replace hn : n = n1 := Eq.symm hn
      subst hn
      replace b_m : bM k (b + 204) y6.2 hh := c_m
      clear c_m
      replace ff : rx_fr [(b + 204, 9)] _ hh := ff
      replace b_B := b_B.keep ff ⟨s_B_m, trivial⟩
      replace b_p := b_p.keep ff ⟨s_p_m, trivial⟩
      replace b_w := b_w.keep ff ⟨s_w_m, trivial⟩
      replace b_e := b_e.keep ff ⟨s_e_m, trivial⟩
      replace fr := rx_frt fr ff (fun a ha => ⟨ha.1, trivial⟩)
      refine rx_icmp_eq C dL_law_1777 3126 (by decide) (fun c7 => ?_) (fun c7 => ?_)
      · rw [if_pos c7] at hF
        obtain rfl := Option.some.inj hF
        exact rx_wide (cells + 3) (slots + 18) (by omega) (by omega) (KK _ _ (Nat.le_refl _) b_m fr)
      · rw [if_neg c7] at hF
        refine rx_iconst C dL_law_1780 (0 : Int32) (by decide) ?_
        cases hF
  · rw [if_neg c1] at hF
    refine rx_iconst C dL_law_1751 (1 : Int32) (by decide) ?_
    refine rx_goto C dL_law_1752 1756 (by decide) ?_
    replace hF := rx_biE hF; obtain ⟨y8, e_y8, hF⟩ := hF
    refine rx_ci (rx_rV C (w_X8_queueLength e_y8 b_B b_p b_w b_e) Y_X8_queueLength V_X8_queueLength m_L_266 (Or.inl ⟨_, _, _, _, b_B, rfl⟩) ⟨⟨rfl, rfl⟩, ⟨(Nat.le_of_ble_eq_true rfl), (Nat.le_of_ble_eq_true rfl)⟩, ⟨by show _ ≤ 601024; omega, by show _ ≤ 7293034; omega⟩⟩ rfl rfl (Nat.le_of_ble_eq_true rfl) dL_law_1756) (fun r hh n1 hpp => ?_)
    obtain ⟨rfl, hu⟩ := hpp
    cases hu
    refine rx_aload_n C dL_law_1759 2 rfl ?_
    refine rx_aload_n C dL_law_1760 0 rfl ?_
    refine rx_iload C dL_law_1761 4 rfl ?_
    refine rx_iconst C dL_law_1763 (1 : Int32) (by decide) ?_
    refine rx_iadd C dL_law_1764 ?_
    refine rx_sld C hX hbl hbA h1 dL_law_1765 ?_
    refine rx_if_eq C dL_law_1766 1773 (by decide) (fun c10 => ?_) (fun c10 => ?_)
    · rw [if_pos c10] at hF
      refine rx_iconst C dL_law_1773 (0 : Int32) (by decide) ?_
      replace hF := rx_biE hF; obtain ⟨y11, e_y11, hF⟩ := hF
      refine rx_ci (rx_rV C (w_X9_queueLength e_y11 b_m) Y_X9_queueLength V_X9_queueLength m_L_269 (Or.inl ⟨_, _, _, _, b_m.1, rfl⟩) ⟨⟨rfl, rfl⟩, ⟨(Nat.le_of_ble_eq_true rfl), (Nat.le_of_ble_eq_true rfl)⟩, ⟨by show _ ≤ 601024; omega, by show _ ≤ 7293034; omega⟩⟩ rfl rfl (Nat.le_of_ble_eq_true rfl) dL_law_1774) (fun r hh n1 hpp => ?_)
      obtain ⟨rfl, hn, c_m, ff⟩ := hpp
      replace hn : n = n1 := Eq.symm hn
      subst hn
      replace b_m : bM k (b + 204) y11.2 hh := c_m
      clear c_m
      replace ff : rx_fr [(b + 204, 9)] _ hh := ff
      replace b_B := b_B.keep ff ⟨s_B_m, trivial⟩
      replace b_p := b_p.keep ff ⟨s_p_m, trivial⟩
      replace b_w := b_w.keep ff ⟨s_w_m, trivial⟩
      replace b_e := b_e.keep ff ⟨s_e_m, trivial⟩
      replace fr := rx_frt fr ff (fun a ha => ⟨ha.1, trivial⟩)
      refine rx_icmp_eq C dL_law_1777 3126 (by decide) (fun c12 => ?_) (fun c12 => ?_)
      · rw [if_pos c12] at hF
        obtain rfl := Option.some.inj hF
        exact rx_wide (cells + 3) (slots + 18) (by omega) (by omega) (KK _ _ (Nat.le_refl _) b_m fr)
      · rw [if_neg c12] at hF
        refine rx_iconst C dL_law_1780 (0 : Int32) (by decide) ?_
        cases hF
    · rw [if_neg c10] at hF
      refine rx_iconst C dL_law_1769 (1 : Int32) (by decide) ?_
      refine rx_goto C dL_law_1770 1774 (by decide) ?_
      replace hF := rx_biE hF; obtain ⟨y13, e_y13, hF⟩ := hF
      refine rx_ci (rx_rV C (w_X9_queueLength e_y13 b_m) Y_X9_queueLength V_X9_queueLength m_L_269 (Or.inl ⟨_, _, _, _, b_m.1, rfl⟩) ⟨⟨rfl, rfl⟩, ⟨(Nat.le_of_ble_eq_true rfl), (Nat.le_of_ble_eq_true rfl)⟩, ⟨by show _ ≤ 601024; omega, by show _ ≤ 7293034; omega⟩⟩ rfl rfl (Nat.le_of_ble_eq_true rfl) dL_law_1774) (fun r hh n1 hpp => ?_)
      obtain ⟨rfl, hn, c_m, ff⟩ := hpp
      replace hn : n = n1 := Eq.symm hn
      subst hn
      replace b_m : bM k (b + 204) y13.2 hh := c_m
      clear c_m
      replace ff : rx_fr [(b + 204, 9)] _ hh := ff
      replace b_B := b_B.keep ff ⟨s_B_m, trivial⟩
      replace b_p := b_p.keep ff ⟨s_p_m, trivial⟩
      replace b_w := b_w.keep ff ⟨s_w_m, trivial⟩
      replace b_e := b_e.keep ff ⟨s_e_m, trivial⟩
      replace fr := rx_frt fr ff (fun a ha => ⟨ha.1, trivial⟩)
      refine rx_icmp_eq C dL_law_1777 3126 (by decide) (fun c14 => ?_) (fun c14 => ?_)
      · rw [if_pos c14] at hF
        obtain rfl := Option.some.inj hF
        exact rx_wide (cells + 3) (slots + 18) (by omega) (by omega) (KK _ _ (Nat.le_refl _) b_m fr)
      · rw [if_neg c14] at hF
        refine rx_iconst C dL_law_1780 (0 : Int32) (by decide) ?_
        cases hF
def F_case_35 (oB : ob) (op : ob) (ow : ob) (oe : ob) (om : ob) (a1 : Int32) (a2 : Int32) : Option (ob) := if a1 = (0 : Int32) then ((F_X8_queued oB op ow oe ((0 : Int32)) a2).bind fun y2 => if a1 = (0 : Int32) then ((F_X9_queued om ((0 : Int32)) a2).bind fun y4 => if y2 = y4.1 then (some y4.2) else (none)) else ((F_X9_queued om ((1 : Int32)) a2).bind fun y6 => if y2 = y6.1 then (some y6.2) else (none))) else ((F_X8_queued oB op ow oe ((1 : Int32)) a2).bind fun y8 => if a1 = (0 : Int32) then ((F_X9_queued om ((0 : Int32)) a2).bind fun y11 => if y8 = y11.1 then (some y11.2) else (none)) else ((F_X9_queued om ((1 : Int32)) a2).bind fun y13 => if y8 = y13.1 then (some y13.2) else (none)))
set_option maxRecDepth 100000 in
set_option maxHeartbeats 4000000 in
theorem lc_35 {b : Nat} {oB : ob} {op : ob} {ow : ob} {oe : ob} {om : ob} {a1 : Int32} {a2 : Int32} {y : ob} (hst : l.stackTraces = false) (hF : F_case_35 oB op ow oe om a1 a2 = some y) (C : rx_C G k P9 M9 c9 cL_law RL 9 ret9 S9 A9 me9) (hN : rx_NC S9) (hX : va_X sc len xs S9 S9.heap) (hbl : sc < S9.heap.size) (hbA : ¬ k 0 ≤ sc) (h1 : vp_in (x4 + (1 : Int32)) len ∧ xs (x4 + (1 : Int32)).toNatClampNeg = a1) (h2 : vp_in (x4 + (2 : Int32)) len ∧ xs (x4 + (2 : Int32)).toNatClampNeg = a2) (hcl : cells + 3 ≤ 601024) (hsl : slots + 18 ≤ 7293034) (b_B : bB k b oB h) (b_p : bP k (b + 21) (b + 12) op h) (b_w : bQ k (b + 21 + 10) ow h) (b_e : bQ k (b + 21 + 13) oe h) (b_m : bM k (b + 204) om h) (KK : ∀ (hh : hp) (n1 : Nat), n ≤ n1 → bM k (b + 204) y hh → rx_fr [(b + 204, 9)] h hh → rx_W P9 l E9 room_1 S9 M9 A9 B9 me9 c9 Q9 G k 9 (cells + 3) (slots + 18) hh n1 3126 [(0, .ref sc), (1, .ref b), (2, .ref (b + 204)), (3, .ref (b + 213)), (4, .int x4)] []) : rx_W P9 l E9 room_1 S9 M9 A9 B9 me9 c9 Q9 G k 9 cells slots h n 1782 [(0, .ref sc), (1, .ref b), (2, .ref (b + 204)), (3, .ref (b + 213)), (4, .int x4)] [] := by
  have s_B_m : b + 1 ≤ b + 204 ∨ b + 204 + 9 ≤ b := by omega
  have s_p_m : b + 21 + 10 ≤ b + 204 ∨ b + 204 + 9 ≤ b + 21 := by omega
  have s_w_m : b + 21 + 10 + 3 ≤ b + 204 ∨ b + 204 + 9 ≤ b + 21 + 10 := by omega
  have s_e_m : b + 21 + 13 + 3 ≤ b + 204 ∨ b + 204 + 9 ≤ b + 21 + 13 := by omega
  unfold F_case_35 at hF
  have fr : rx_fr [(b + 204, 9)] h h := rx_fr0
  refine rx_aload_n C dL_law_1782 1 rfl ?_
  refine rx_aload_n C dL_law_1783 0 rfl ?_
  refine rx_iload C dL_law_1784 4 rfl ?_
  refine rx_iconst C dL_law_1786 (1 : Int32) (by decide) ?_
  refine rx_iadd C dL_law_1787 ?_
  refine rx_sld C hX hbl hbA h1 dL_law_1788 ?_
  refine rx_if_eq C dL_law_1789 1796 (by decide) (fun c1 => ?_) (fun c1 => ?_)
  · rw [if_pos c1] at hF
    refine rx_iconst C dL_law_1796 (0 : Int32) (by decide) ?_
    refine rx_aload_n C dL_law_1797 0 rfl ?_
    refine rx_iload C dL_law_1798 4 rfl ?_
    refine rx_iconst C dL_law_1800 (2 : Int32) (by decide) ?_
    refine rx_iadd C dL_law_1801 ?_
    refine rx_sld C hX hbl hbA h2 dL_law_1802 ?_
    replace hF := rx_biE hF; obtain ⟨y2, e_y2, hF⟩ := hF
    refine rx_ci (rx_rV C (w_X8_queued e_y2 b_B b_p b_w b_e) Y_X8_queued V_X8_queued m_L_270 (Or.inl ⟨_, _, _, _, b_B, rfl⟩) ⟨⟨rfl, rfl⟩, ⟨(Nat.le_of_ble_eq_true rfl), (Nat.le_of_ble_eq_true rfl)⟩, ⟨by show _ ≤ 601024; omega, by show _ ≤ 7293034; omega⟩⟩ rfl rfl (Nat.le_of_ble_eq_true rfl) dL_law_1803) (fun r hh n1 hpp => ?_)
    obtain ⟨rfl, hu⟩ := hpp
    cases hu
    refine rx_aload_n C dL_law_1806 2 rfl ?_
    refine rx_aload_n C dL_law_1807 0 rfl ?_
    refine rx_iload C dL_law_1808 4 rfl ?_
    refine rx_iconst C dL_law_1810 (1 : Int32) (by decide) ?_
    refine rx_iadd C dL_law_1811 ?_
    refine rx_sld C hX hbl hbA h1 dL_law_1812 ?_
    refine rx_if_eq C dL_law_1813 1820 (by decide) (fun c3 => ?_) (fun c3 => ?_)
    · rw [if_pos c3] at hF
      refine rx_iconst C dL_law_1820 (0 : Int32) (by decide) ?_
      refine rx_aload_n C dL_law_1821 0 rfl ?_
      refine rx_iload C dL_law_1822 4 rfl ?_
      refine rx_iconst C dL_law_1824 (2 : Int32) (by decide) ?_
      refine rx_iadd C dL_law_1825 ?_
      refine rx_sld C hX hbl hbA h2 dL_law_1826 ?_
      replace hF := rx_biE hF; obtain ⟨y4, e_y4, hF⟩ := hF
      refine rx_ci (rx_rV C (w_X9_queued e_y4 b_m) Y_X9_queued V_X9_queued m_L_274 (Or.inl ⟨_, _, _, _, b_m.1, rfl⟩) ⟨⟨rfl, rfl⟩, ⟨(Nat.le_of_ble_eq_true rfl), (Nat.le_of_ble_eq_true rfl)⟩, ⟨by show _ ≤ 601024; omega, by show _ ≤ 7293034; omega⟩⟩ rfl rfl (Nat.le_of_ble_eq_true rfl) dL_law_1827) (fun r hh n1 hpp => ?_)
      obtain ⟨rfl, hn, c_m, ff⟩ := hpp
      replace hn : n = n1 := Eq.symm hn
      subst hn
      replace b_m : bM k (b + 204) y4.2 hh := c_m
      clear c_m
      replace ff : rx_fr [(b + 204, 9)] _ hh := ff
      replace b_B := b_B.keep ff ⟨s_B_m, trivial⟩
      replace b_p := b_p.keep ff ⟨s_p_m, trivial⟩
      replace b_w := b_w.keep ff ⟨s_w_m, trivial⟩
      replace b_e := b_e.keep ff ⟨s_e_m, trivial⟩
      replace fr := rx_frt fr ff (fun a ha => ⟨ha.1, trivial⟩)
      refine rx_icmp_eq C dL_law_1830 3126 (by decide) (fun c5 => ?_) (fun c5 => ?_)
      · rw [if_pos c5] at hF
        obtain rfl := Option.some.inj hF
        exact rx_wide (cells + 3) (slots + 18) (by omega) (by omega) (KK _ _ (Nat.le_refl _) b_m fr)
      · rw [if_neg c5] at hF
        refine rx_iconst C dL_law_1833 (0 : Int32) (by decide) ?_
        cases hF
    · rw [if_neg c3] at hF
      refine rx_iconst C dL_law_1816 (1 : Int32) (by decide) ?_
      refine rx_goto C dL_law_1817 1821 (by decide) ?_
      refine rx_aload_n C dL_law_1821 0 rfl ?_
      refine rx_iload C dL_law_1822 4 rfl ?_
      refine rx_iconst C dL_law_1824 (2 : Int32) (by decide) ?_
      refine rx_iadd C dL_law_1825 ?_
      refine rx_sld C hX hbl hbA h2 dL_law_1826 ?_
      replace hF := rx_biE hF; obtain ⟨y6, e_y6, hF⟩ := hF
      refine rx_ci (rx_rV C (w_X9_queued e_y6 b_m) Y_X9_queued V_X9_queued m_L_274 (Or.inl ⟨_, _, _, _, b_m.1, rfl⟩) ⟨⟨rfl, rfl⟩, ⟨(Nat.le_of_ble_eq_true rfl), (Nat.le_of_ble_eq_true rfl)⟩, ⟨by show _ ≤ 601024; omega, by show _ ≤ 7293034; omega⟩⟩ rfl rfl (Nat.le_of_ble_eq_true rfl) dL_law_1827) (fun r hh n1 hpp => ?_)
      obtain ⟨rfl, hn, c_m, ff⟩ := hpp
      replace hn : n = n1 := Eq.symm hn
      subst hn
      replace b_m : bM k (b + 204) y6.2 hh := c_m
      clear c_m
      replace ff : rx_fr [(b + 204, 9)] _ hh := ff
      replace b_B := b_B.keep ff ⟨s_B_m, trivial⟩
      replace b_p := b_p.keep ff ⟨s_p_m, trivial⟩
      replace b_w := b_w.keep ff ⟨s_w_m, trivial⟩
      replace b_e := b_e.keep ff ⟨s_e_m, trivial⟩
      replace fr := rx_frt fr ff (fun a ha => ⟨ha.1, trivial⟩)
      refine rx_icmp_eq C dL_law_1830 3126 (by decide) (fun c7 => ?_) (fun c7 => ?_)
      · rw [if_pos c7] at hF
        obtain rfl := Option.some.inj hF
        exact rx_wide (cells + 3) (slots + 18) (by omega) (by omega) (KK _ _ (Nat.le_refl _) b_m fr)
      · rw [if_neg c7] at hF
        refine rx_iconst C dL_law_1833 (0 : Int32) (by decide) ?_
        cases hF
  · rw [if_neg c1] at hF
    refine rx_iconst C dL_law_1792 (1 : Int32) (by decide) ?_
    refine rx_goto C dL_law_1793 1797 (by decide) ?_
    refine rx_aload_n C dL_law_1797 0 rfl ?_
    refine rx_iload C dL_law_1798 4 rfl ?_
    refine rx_iconst C dL_law_1800 (2 : Int32) (by decide) ?_
    refine rx_iadd C dL_law_1801 ?_
    refine rx_sld C hX hbl hbA h2 dL_law_1802 ?_
    replace hF := rx_biE hF; obtain ⟨y8, e_y8, hF⟩ := hF
    refine rx_ci (rx_rV C (w_X8_queued e_y8 b_B b_p b_w b_e) Y_X8_queued V_X8_queued m_L_270 (Or.inl ⟨_, _, _, _, b_B, rfl⟩) ⟨⟨rfl, rfl⟩, ⟨(Nat.le_of_ble_eq_true rfl), (Nat.le_of_ble_eq_true rfl)⟩, ⟨by show _ ≤ 601024; omega, by show _ ≤ 7293034; omega⟩⟩ rfl rfl (Nat.le_of_ble_eq_true rfl) dL_law_1803) (fun r hh n1 hpp => ?_)
    obtain ⟨rfl, hu⟩ := hpp
    cases hu
    refine rx_aload_n C dL_law_1806 2 rfl ?_
    refine rx_aload_n C dL_law_1807 0 rfl ?_
    refine rx_iload C dL_law_1808 4 rfl ?_
    refine rx_iconst C dL_law_1810 (1 : Int32) (by decide) ?_
    refine rx_iadd C dL_law_1811 ?_
    refine rx_sld C hX hbl hbA h1 dL_law_1812 ?_
    refine rx_if_eq C dL_law_1813 1820 (by decide) (fun c10 => ?_) (fun c10 => ?_)
    · rw [if_pos c10] at hF
      refine rx_iconst C dL_law_1820 (0 : Int32) (by decide) ?_
      refine rx_aload_n C dL_law_1821 0 rfl ?_
      refine rx_iload C dL_law_1822 4 rfl ?_
      refine rx_iconst C dL_law_1824 (2 : Int32) (by decide) ?_
      refine rx_iadd C dL_law_1825 ?_
      refine rx_sld C hX hbl hbA h2 dL_law_1826 ?_
      replace hF := rx_biE hF; obtain ⟨y11, e_y11, hF⟩ := hF
      refine rx_ci (rx_rV C (w_X9_queued e_y11 b_m) Y_X9_queued V_X9_queued m_L_274 (Or.inl ⟨_, _, _, _, b_m.1, rfl⟩) ⟨⟨rfl, rfl⟩, ⟨(Nat.le_of_ble_eq_true rfl), (Nat.le_of_ble_eq_true rfl)⟩, ⟨by show _ ≤ 601024; omega, by show _ ≤ 7293034; omega⟩⟩ rfl rfl (Nat.le_of_ble_eq_true rfl) dL_law_1827) (fun r hh n1 hpp => ?_)
      obtain ⟨rfl, hn, c_m, ff⟩ := hpp
      replace hn : n = n1 := Eq.symm hn
      subst hn
      replace b_m : bM k (b + 204) y11.2 hh := c_m
      clear c_m
      replace ff : rx_fr [(b + 204, 9)] _ hh := ff
      replace b_B := b_B.keep ff ⟨s_B_m, trivial⟩
      replace b_p := b_p.keep ff ⟨s_p_m, trivial⟩
      replace b_w := b_w.keep ff ⟨s_w_m, trivial⟩
      replace b_e := b_e.keep ff ⟨s_e_m, trivial⟩
      replace fr := rx_frt fr ff (fun a ha => ⟨ha.1, trivial⟩)
      refine rx_icmp_eq C dL_law_1830 3126 (by decide) (fun c12 => ?_) (fun c12 => ?_)
      · rw [if_pos c12] at hF
        obtain rfl := Option.some.inj hF
        exact rx_wide (cells + 3) (slots + 18) (by omega) (by omega) (KK _ _ (Nat.le_refl _) b_m fr)
      · rw [if_neg c12] at hF
        refine rx_iconst C dL_law_1833 (0 : Int32) (by decide) ?_
        cases hF
    · rw [if_neg c10] at hF
      refine rx_iconst C dL_law_1816 (1 : Int32) (by decide) ?_
      refine rx_goto C dL_law_1817 1821 (by decide) ?_
      refine rx_aload_n C dL_law_1821 0 rfl ?_
      refine rx_iload C dL_law_1822 4 rfl ?_
      refine rx_iconst C dL_law_1824 (2 : Int32) (by decide) ?_
      refine rx_iadd C dL_law_1825 ?_
      refine rx_sld C hX hbl hbA h2 dL_law_1826 ?_
      replace hF := rx_biE hF; obtain ⟨y13, e_y13, hF⟩ := hF
      refine rx_ci (rx_rV C (w_X9_queued e_y13 b_m) Y_X9_queued V_X9_queued m_L_274 (Or.inl ⟨_, _, _, _, b_m.1, rfl⟩) ⟨⟨rfl, rfl⟩, ⟨(Nat.le_of_ble_eq_true rfl), (Nat.le_of_ble_eq_true rfl)⟩, ⟨by show _ ≤ 601024; omega, by show _ ≤ 7293034; omega⟩⟩ rfl rfl (Nat.le_of_ble_eq_true rfl) dL_law_1827) (fun r hh n1 hpp => ?_)
      obtain ⟨rfl, hn, c_m, ff⟩ := hpp
      replace hn : n = n1 := Eq.symm hn
      subst hn
      replace b_m : bM k (b + 204) y13.2 hh := c_m
      clear c_m
      replace ff : rx_fr [(b + 204, 9)] _ hh := ff
      replace b_B := b_B.keep ff ⟨s_B_m, trivial⟩
      replace b_p := b_p.keep ff ⟨s_p_m, trivial⟩
      replace b_w := b_w.keep ff ⟨s_w_m, trivial⟩
      replace b_e := b_e.keep ff ⟨s_e_m, trivial⟩
      replace fr := rx_frt fr ff (fun a ha => ⟨ha.1, trivial⟩)
      refine rx_icmp_eq C dL_law_1830 3126 (by decide) (fun c14 => ?_) (fun c14 => ?_)
      · rw [if_pos c14] at hF
        obtain rfl := Option.some.inj hF
        exact rx_wide (cells + 3) (slots + 18) (by omega) (by omega) (KK _ _ (Nat.le_refl _) b_m fr)
      · rw [if_neg c14] at hF
        refine rx_iconst C dL_law_1833 (0 : Int32) (by decide) ?_
        cases hF
def F_case_36 (oB : ob) (os : ob) (op : ob) (ow : ob) (oe : ob) (om : ob) (oL : (Nat → Int64)) (a1 : Int32) : Option (ob × (Nat → Int64)) := (F_L_offer oB os op ow oe oL a1).bind fun y1 => (F_X9_offer om a1).bind fun y2 => (F_X9_thrown y2.2).bind fun y3 => if y3 = y1.1 then (if y1.1 = (0 : Int32) then (if (lg_cmp ((y1.2 0)) y2.1.toInt64) = (0 : Int32) then (some (y2.2, y1.2)) else (none)) else (some (y2.2, y1.2))) else (none)
set_option maxRecDepth 100000 in
set_option maxHeartbeats 4000000 in
theorem lc_36 {b : Nat} {oB : ob} {os : ob} {op : ob} {ow : ob} {oe : ob} {om : ob} {oL : (Nat → Int64)} {a1 : Int32} {y : ob × (Nat → Int64)} (hst : l.stackTraces = false) (hF : F_case_36 oB os op ow oe om oL a1 = some y) (C : rx_C G k P9 M9 c9 cL_law RL 9 ret9 S9 A9 me9) (hN : rx_NC S9) (hX : va_X sc len xs S9 S9.heap) (hbl : sc < S9.heap.size) (hbA : ¬ k 0 ≤ sc) (h1 : vp_in (x4 + (1 : Int32)) len ∧ xs (x4 + (1 : Int32)).toNatClampNeg = a1) (hcl : cells + 3 ≤ 601024) (hsl : slots + 18 ≤ 7293034) (b_B : bB k b oB h) (b_s : bS k (b + 12) os h) (b_p : bP k (b + 21) (b + 12) op h) (b_w : bQ k (b + 21 + 10) ow h) (b_e : bQ k (b + 21 + 13) oe h) (b_m : bM k (b + 204) om h) (b_L : bL k (b + 213) oL h) (KK : ∀ (hh : hp) (n1 : Nat), n ≤ n1 → bM k (b + 204) y.1 hh → bL k (b + 213) y.2 hh → rx_fr [(b + 204, 9), (b + 213, 1)] h hh → rx_W P9 l E9 room_1 S9 M9 A9 B9 me9 c9 Q9 G k 9 (cells + 3) (slots + 18) hh n1 3126 [(0, .ref sc), (1, .ref b), (2, .ref (b + 204)), (3, .ref (b + 213)), (4, .int x4)] []) : rx_W P9 l E9 room_1 S9 M9 A9 B9 me9 c9 Q9 G k 9 cells slots h n 1835 [(0, .ref sc), (1, .ref b), (2, .ref (b + 204)), (3, .ref (b + 213)), (4, .int x4)] [] := by
  have s_B_L : b + 1 ≤ b + 213 ∨ b + 213 + 1 ≤ b := by omega
  have s_s_L : b + 12 + 9 ≤ b + 213 ∨ b + 213 + 1 ≤ b + 12 := by omega
  have s_p_L : b + 21 + 10 ≤ b + 213 ∨ b + 213 + 1 ≤ b + 21 := by omega
  have s_w_L : b + 21 + 10 + 3 ≤ b + 213 ∨ b + 213 + 1 ≤ b + 21 + 10 := by omega
  have s_e_L : b + 21 + 13 + 3 ≤ b + 213 ∨ b + 213 + 1 ≤ b + 21 + 13 := by omega
  have s_m_L : b + 204 + 9 ≤ b + 213 ∨ b + 213 + 1 ≤ b + 204 := by omega
  have s_B_m : b + 1 ≤ b + 204 ∨ b + 204 + 9 ≤ b := by omega
  have s_s_m : b + 12 + 9 ≤ b + 204 ∨ b + 204 + 9 ≤ b + 12 := by omega
  have s_p_m : b + 21 + 10 ≤ b + 204 ∨ b + 204 + 9 ≤ b + 21 := by omega
  have s_w_m : b + 21 + 10 + 3 ≤ b + 204 ∨ b + 204 + 9 ≤ b + 21 + 10 := by omega
  have s_e_m : b + 21 + 13 + 3 ≤ b + 204 ∨ b + 204 + 9 ≤ b + 21 + 13 := by omega
  have s_L_m : b + 213 + 1 ≤ b + 204 ∨ b + 204 + 9 ≤ b + 213 := by omega
  unfold F_case_36 at hF
  have fr : rx_fr [(b + 204, 9), (b + 213, 1)] h h := rx_fr0
  refine rx_aload_n C dL_law_1835 1 rfl ?_
  refine rx_aload_n C dL_law_1836 0 rfl ?_
  refine rx_iload C dL_law_1837 4 rfl ?_
  refine rx_iconst C dL_law_1839 (1 : Int32) (by decide) ?_
  refine rx_iadd C dL_law_1840 ?_
  refine rx_sld C hX hbl hbA h1 dL_law_1841 ?_
  refine rx_aload_n C dL_law_1842 3 rfl ?_
  replace hF := rx_biE hF; obtain ⟨y1, e_y1, hF⟩ := hF
  refine rx_xci (rx_rSX C hN (w_L_offer hst e_y1 b_B b_s b_p b_w b_e b_L (by omega)) Y_L_offer S_L_offer m_L_275 ⟨⟨rfl, rfl⟩, ⟨(Nat.le_of_ble_eq_true rfl), (Nat.le_of_ble_eq_true rfl)⟩, ⟨by show _ ≤ 601024; omega, by show _ ≤ 7293034; omega⟩⟩ rfl rfl (Nat.le_of_ble_eq_true rfl) dL_law_1843) (fun E hh n1 hx => hx.elim) (fun r hh n hpp => ?_)
  obtain ⟨rfl, hn0, c_L, ff⟩ := hpp
  replace b_L : bL k (b + 213) y1.2 hh := c_L
  clear c_L
  replace ff : rx_fr [(b + 213, 1)] _ hh := ff
  replace b_B := b_B.keep ff ⟨s_B_L, trivial⟩
  replace b_s := b_s.keep ff ⟨s_s_L, trivial⟩
  replace b_p := b_p.keep ff ⟨s_p_L, trivial⟩
  replace b_w := b_w.keep ff ⟨s_w_L, trivial⟩
  replace b_e := b_e.keep ff ⟨s_e_L, trivial⟩
  replace b_m := b_m.keep ff ⟨s_m_L, trivial⟩
  replace fr := rx_frt fr ff (fun a ha => ⟨ha.2.1, trivial⟩)
  refine rx_istore C dL_law_1846 (by decide) [(5, .int y1.1), (0, .ref sc), (1, .ref b), (2, .ref (b + 204)), (3, .ref (b + 213)), (4, .int x4)] rfl ?_
  refine rx_aload_n C dL_law_1848 3 rfl ?_
  refine rx_aload_n C dL_law_1849 1 rfl ?_
  refine rx_iload C dL_law_1850 5 rfl ?_
  refine rx_iconst C dL_law_1852 (1 : Int32) (by decide) ?_
  refine rx_iadd C dL_law_1853 ?_
  refine rx_sld C hX hbl hbA h1 dL_law_1854 ?_
  replace hF := rx_biE hF; obtain ⟨y2, e_y2, hF⟩ := hF
  refine rx_ci (rx_rV C (w_X9_offer e_y2 b_m) Y_X9_offer V_X9_offer m_L_277 (Or.inl ⟨_, _, _, _, b_m.1, rfl⟩) ⟨⟨rfl, rfl⟩, ⟨(Nat.le_of_ble_eq_true rfl), (Nat.le_of_ble_eq_true rfl)⟩, ⟨by show _ ≤ 601024; omega, by show _ ≤ 7293034; omega⟩⟩ rfl rfl (Nat.le_of_ble_eq_true rfl) dL_law_1855) (fun r hh n1 hpp => ?_)
  obtain ⟨rfl, hn, c_m, ff⟩ := hpp
  replace hn : n = n1 := Eq.symm hn
  subst hn
  replace b_m : bM k (b + 204) y2.2 hh := c_m
  clear c_m
  replace ff : rx_fr [(b + 204, 9)] _ hh := ff
  replace b_B := b_B.keep ff ⟨s_B_m, trivial⟩
  replace b_s := b_s.keep ff ⟨s_s_m, trivial⟩
  replace b_p := b_p.keep ff ⟨s_p_m, trivial⟩
  replace b_w := b_w.keep ff ⟨s_w_m, trivial⟩
  replace b_e := b_e.keep ff ⟨s_e_m, trivial⟩
  replace b_L := b_L.keep ff ⟨s_L_m, trivial⟩
  replace fr := rx_frt fr ff (fun a ha => ⟨ha.1, trivial⟩)
  refine rx_istore C dL_law_1858 (by decide) [(6, .int y2.1), (5, .int y1.1), (0, .ref sc), (1, .ref b), (2, .ref (b + 204)), (3, .ref (b + 213)), (4, .int x4)] rfl ?_
  refine rx_aload_n C dL_law_1860 4 rfl ?_
  replace hF := rx_biE hF; obtain ⟨y3, e_y3, hF⟩ := hF
  refine rx_ci (rx_rV C (w_X9_thrown e_y3 b_m) Y_X9_thrown V_X9_thrown m_L_148 (Or.inl ⟨_, _, _, _, b_m.1, rfl⟩) ⟨⟨rfl, rfl⟩, ⟨(Nat.le_of_ble_eq_true rfl), (Nat.le_of_ble_eq_true rfl)⟩, ⟨by show _ ≤ 601024; omega, by show _ ≤ 7293034; omega⟩⟩ rfl rfl (Nat.le_of_ble_eq_true rfl) dL_law_1861) (fun r hh n1 hpp => ?_)
  obtain ⟨rfl, hu⟩ := hpp
  cases hu
  refine rx_iload C dL_law_1864 1 rfl ?_
  refine rx_icmp_eq C dL_law_1866 1871 (by decide) (fun c4 => ?_) (fun c4 => ?_)
  · rw [if_pos c4] at hF
    refine rx_iload C dL_law_1871 1 rfl ?_
    refine rx_if_ne C dL_law_1873 1888 (by decide) (fun c5 => ?_) (fun c5 => ?_)
    · rw [if_neg c5] at hF
      refine rx_goto C dL_law_1888 3126 (by decide) ?_
      obtain rfl := Option.some.inj hF
      refine rx_sub [2, 3, 4, 5, 6] rfl ?_
      exact rx_wide (cells + 3) (slots + 18) (by omega) (by omega) (KK _ _ (hn0) b_m b_L fr)
    · rw [if_pos c5] at hF
      refine rx_aload_n C dL_law_1876 5 rfl ?_
      refine rx_iconst C dL_law_1877 (0 : Int32) (by decide) ?_
      refine rx_ldL C dL_law_1878 b_L ?_
      refine rx_iload C dL_law_1879 0 rfl ?_
      refine rx_i2l C dL_law_1881 ?_
      refine rx_lcmp C dL_law_1882 ?_
      refine rx_if_eq C dL_law_1883 1888 (by decide) (fun c6 => ?_) (fun c6 => ?_)
      · rw [if_pos c6] at hF
        refine rx_goto C dL_law_1888 3126 (by decide) ?_
        obtain rfl := Option.some.inj hF
        refine rx_sub [2, 3, 4, 5, 6] rfl ?_
        exact rx_wide (cells + 3) (slots + 18) (by omega) (by omega) (KK _ _ (hn0) b_m b_L fr)
      · rw [if_neg c6] at hF
        refine rx_iconst C dL_law_1886 (0 : Int32) (by decide) ?_
        cases hF
  · rw [if_neg c4] at hF
    refine rx_iconst C dL_law_1869 (0 : Int32) (by decide) ?_
    cases hF
def F_case_37 (oB : ob) (os : ob) (om : ob) : Option (ob) := (F_X8_bridgeCount oB os).bind fun y1 => (F_X9_bridgeCount om).bind fun y2 => if y1 = y2.1 then (some y2.2) else (none)
set_option maxRecDepth 100000 in
set_option maxHeartbeats 4000000 in
theorem lc_37 {b : Nat} {oB : ob} {os : ob} {om : ob} {y : ob} (hst : l.stackTraces = false) (hF : F_case_37 oB os om = some y) (C : rx_C G k P9 M9 c9 cL_law RL 9 ret9 S9 A9 me9) (hN : rx_NC S9) (hX : va_X sc len xs S9 S9.heap) (hbl : sc < S9.heap.size) (hbA : ¬ k 0 ≤ sc) (hcl : cells + 3 ≤ 601024) (hsl : slots + 18 ≤ 7293034) (b_B : bB k b oB h) (b_s : bS k (b + 12) os h) (b_m : bM k (b + 204) om h) (KK : ∀ (hh : hp) (n1 : Nat), n ≤ n1 → bM k (b + 204) y hh → rx_fr [(b + 204, 9)] h hh → rx_W P9 l E9 room_1 S9 M9 A9 B9 me9 c9 Q9 G k 9 (cells + 3) (slots + 18) hh n1 3126 [(0, .ref sc), (1, .ref b), (2, .ref (b + 204)), (3, .ref (b + 213)), (4, .int x4)] []) : rx_W P9 l E9 room_1 S9 M9 A9 B9 me9 c9 Q9 G k 9 cells slots h n 1891 [(0, .ref sc), (1, .ref b), (2, .ref (b + 204)), (3, .ref (b + 213)), (4, .int x4)] [] := by
  have s_B_m : b + 1 ≤ b + 204 ∨ b + 204 + 9 ≤ b := by omega
  have s_s_m : b + 12 + 9 ≤ b + 204 ∨ b + 204 + 9 ≤ b + 12 := by omega
  unfold F_case_37 at hF
  have fr : rx_fr [(b + 204, 9)] h h := rx_fr0
  refine rx_aload_n C dL_law_1891 1 rfl ?_
  replace hF := rx_biE hF; obtain ⟨y1, e_y1, hF⟩ := hF
  refine rx_ci (rx_rV C (w_X8_bridgeCount e_y1 b_B b_s) Y_X8_bridgeCount V_X8_bridgeCount m_L_278 (Or.inl ⟨_, _, _, _, b_B, rfl⟩) ⟨⟨rfl, rfl⟩, ⟨(Nat.le_of_ble_eq_true rfl), (Nat.le_of_ble_eq_true rfl)⟩, ⟨by show _ ≤ 601024; omega, by show _ ≤ 7293034; omega⟩⟩ rfl rfl (Nat.le_of_ble_eq_true rfl) dL_law_1892) (fun r hh n1 hpp => ?_)
  obtain ⟨rfl, hu⟩ := hpp
  cases hu
  refine rx_aload_n C dL_law_1895 2 rfl ?_
  replace hF := rx_biE hF; obtain ⟨y2, e_y2, hF⟩ := hF
  refine rx_ci (rx_rV C (w_X9_bridgeCount e_y2 b_m) Y_X9_bridgeCount V_X9_bridgeCount m_L_281 (Or.inl ⟨_, _, _, _, b_m.1, rfl⟩) ⟨⟨rfl, rfl⟩, ⟨(Nat.le_of_ble_eq_true rfl), (Nat.le_of_ble_eq_true rfl)⟩, ⟨by show _ ≤ 601024; omega, by show _ ≤ 7293034; omega⟩⟩ rfl rfl (Nat.le_of_ble_eq_true rfl) dL_law_1896) (fun r hh n1 hpp => ?_)
  obtain ⟨rfl, hn, c_m, ff⟩ := hpp
  replace hn : n = n1 := Eq.symm hn
  subst hn
  replace b_m : bM k (b + 204) y2.2 hh := c_m
  clear c_m
  replace ff : rx_fr [(b + 204, 9)] _ hh := ff
  replace b_B := b_B.keep ff ⟨s_B_m, trivial⟩
  replace b_s := b_s.keep ff ⟨s_s_m, trivial⟩
  replace fr := rx_frt fr ff (fun a ha => ⟨ha.1, trivial⟩)
  refine rx_icmp_eq C dL_law_1899 3126 (by decide) (fun c3 => ?_) (fun c3 => ?_)
  · rw [if_pos c3] at hF
    obtain rfl := Option.some.inj hF
    exact rx_wide (cells + 3) (slots + 18) (by omega) (by omega) (KK _ _ (Nat.le_refl _) b_m fr)
  · rw [if_neg c3] at hF
    refine rx_iconst C dL_law_1902 (0 : Int32) (by decide) ?_
    cases hF
def F_case_38 (oB : ob) (os : ob) (op : ob) (om : ob) (oL : (Nat → Int64)) (a1 : Int32) : Option (ob × (Nat → Int64)) := (F_L_isOpen oB os op oL a1).bind fun y1 => (F_X9_isOpen om a1).bind fun y2 => (F_X9_thrown y2.2).bind fun y3 => if y3 = y1.1 then (if y1.1 = (0 : Int32) then (if y2.1 = (0 : Int32) then (if (lg_cmp ((y1.2 0)) ((0 : Int64))) = (0 : Int32) then (some (y2.2, y1.2)) else (none)) else (if (lg_cmp ((y1.2 0)) ((1 : Int64))) = (0 : Int32) then (some (y2.2, y1.2)) else (none))) else (some (y2.2, y1.2))) else (none)
set_option maxRecDepth 100000 in
set_option maxHeartbeats 4000000 in
theorem lc_38 {b : Nat} {oB : ob} {os : ob} {op : ob} {om : ob} {oL : (Nat → Int64)} {a1 : Int32} {y : ob × (Nat → Int64)} (hst : l.stackTraces = false) (hF : F_case_38 oB os op om oL a1 = some y) (C : rx_C G k P9 M9 c9 cL_law RL 9 ret9 S9 A9 me9) (hN : rx_NC S9) (hX : va_X sc len xs S9 S9.heap) (hbl : sc < S9.heap.size) (hbA : ¬ k 0 ≤ sc) (h1 : vp_in (x4 + (1 : Int32)) len ∧ xs (x4 + (1 : Int32)).toNatClampNeg = a1) (hcl : cells + 3 ≤ 601024) (hsl : slots + 18 ≤ 7293034) (b_B : bB k b oB h) (b_s : bS k (b + 12) os h) (b_p : bP k (b + 21) (b + 12) op h) (b_m : bM k (b + 204) om h) (b_L : bL k (b + 213) oL h) (KK : ∀ (hh : hp) (n1 : Nat), n ≤ n1 → bM k (b + 204) y.1 hh → bL k (b + 213) y.2 hh → rx_fr [(b + 204, 9), (b + 213, 1)] h hh → rx_W P9 l E9 room_1 S9 M9 A9 B9 me9 c9 Q9 G k 9 (cells + 3) (slots + 18) hh n1 3126 [(0, .ref sc), (1, .ref b), (2, .ref (b + 204)), (3, .ref (b + 213)), (4, .int x4)] []) : rx_W P9 l E9 room_1 S9 M9 A9 B9 me9 c9 Q9 G k 9 cells slots h n 1904 [(0, .ref sc), (1, .ref b), (2, .ref (b + 204)), (3, .ref (b + 213)), (4, .int x4)] [] := by
  have s_B_L : b + 1 ≤ b + 213 ∨ b + 213 + 1 ≤ b := by omega
  have s_s_L : b + 12 + 9 ≤ b + 213 ∨ b + 213 + 1 ≤ b + 12 := by omega
  have s_p_L : b + 21 + 10 ≤ b + 213 ∨ b + 213 + 1 ≤ b + 21 := by omega
  have s_m_L : b + 204 + 9 ≤ b + 213 ∨ b + 213 + 1 ≤ b + 204 := by omega
  have s_B_m : b + 1 ≤ b + 204 ∨ b + 204 + 9 ≤ b := by omega
  have s_s_m : b + 12 + 9 ≤ b + 204 ∨ b + 204 + 9 ≤ b + 12 := by omega
  have s_p_m : b + 21 + 10 ≤ b + 204 ∨ b + 204 + 9 ≤ b + 21 := by omega
  have s_L_m : b + 213 + 1 ≤ b + 204 ∨ b + 204 + 9 ≤ b + 213 := by omega
  unfold F_case_38 at hF
  have fr : rx_fr [(b + 204, 9), (b + 213, 1)] h h := rx_fr0
  refine rx_aload_n C dL_law_1904 1 rfl ?_
  refine rx_aload_n C dL_law_1905 0 rfl ?_
  refine rx_iload C dL_law_1906 4 rfl ?_
  refine rx_iconst C dL_law_1908 (1 : Int32) (by decide) ?_
  refine rx_iadd C dL_law_1909 ?_
  refine rx_sld C hX hbl hbA h1 dL_law_1910 ?_
  refine rx_aload_n C dL_law_1911 3 rfl ?_
  replace hF := rx_biE hF; obtain ⟨y1, e_y1, hF⟩ := hF
  refine rx_xci (rx_rSX C hN (w_L_isOpen hst e_y1 b_B b_s b_p b_L (by omega)) Y_L_isOpen S_L_isOpen m_L_282 ⟨⟨rfl, rfl⟩, ⟨(Nat.le_of_ble_eq_true rfl), (Nat.le_of_ble_eq_true rfl)⟩, ⟨by show _ ≤ 601024; omega, by show _ ≤ 7293034; omega⟩⟩ rfl rfl (Nat.le_of_ble_eq_true rfl) dL_law_1912) (fun E hh n1 hx => hx.elim) (fun r hh n hpp => ?_)
  obtain ⟨rfl, hn0, c_L, ff⟩ := hpp
  replace b_L : bL k (b + 213) y1.2 hh := c_L
  clear c_L
  replace ff : rx_fr [(b + 213, 1)] _ hh := ff
  replace b_B := b_B.keep ff ⟨s_B_L, trivial⟩
  replace b_s := b_s.keep ff ⟨s_s_L, trivial⟩
  replace b_p := b_p.keep ff ⟨s_p_L, trivial⟩
  replace b_m := b_m.keep ff ⟨s_m_L, trivial⟩
  replace fr := rx_frt fr ff (fun a ha => ⟨ha.2.1, trivial⟩)
  refine rx_istore C dL_law_1915 (by decide) [(5, .int y1.1), (0, .ref sc), (1, .ref b), (2, .ref (b + 204)), (3, .ref (b + 213)), (4, .int x4)] rfl ?_
  refine rx_aload_n C dL_law_1917 3 rfl ?_
  refine rx_aload_n C dL_law_1918 1 rfl ?_
  refine rx_iload C dL_law_1919 5 rfl ?_
  refine rx_iconst C dL_law_1921 (1 : Int32) (by decide) ?_
  refine rx_iadd C dL_law_1922 ?_
  refine rx_sld C hX hbl hbA h1 dL_law_1923 ?_
  replace hF := rx_biE hF; obtain ⟨y2, e_y2, hF⟩ := hF
  refine rx_ci (rx_rV C (w_X9_isOpen e_y2 b_m) Y_X9_isOpen V_X9_isOpen m_L_284 (Or.inl ⟨_, _, _, _, b_m.1, rfl⟩) ⟨⟨rfl, rfl⟩, ⟨(Nat.le_of_ble_eq_true rfl), (Nat.le_of_ble_eq_true rfl)⟩, ⟨by show _ ≤ 601024; omega, by show _ ≤ 7293034; omega⟩⟩ rfl rfl (Nat.le_of_ble_eq_true rfl) dL_law_1924) (fun r hh n1 hpp => ?_)
  obtain ⟨rfl, bo_y2, hn, c_m, ff⟩ := hpp
  replace hn : n = n1 := Eq.symm hn
  subst hn
  replace b_m : bM k (b + 204) y2.2 hh := c_m
  clear c_m
  replace ff : rx_fr [(b + 204, 9)] _ hh := ff
  replace b_B := b_B.keep ff ⟨s_B_m, trivial⟩
  replace b_s := b_s.keep ff ⟨s_s_m, trivial⟩
  replace b_p := b_p.keep ff ⟨s_p_m, trivial⟩
  replace b_L := b_L.keep ff ⟨s_L_m, trivial⟩
  replace fr := rx_frt fr ff (fun a ha => ⟨ha.1, trivial⟩)
  refine rx_istore C dL_law_1927 (by decide) [(6, .int y2.1), (5, .int y1.1), (0, .ref sc), (1, .ref b), (2, .ref (b + 204)), (3, .ref (b + 213)), (4, .int x4)] rfl ?_
  refine rx_aload_n C dL_law_1929 4 rfl ?_
  replace hF := rx_biE hF; obtain ⟨y3, e_y3, hF⟩ := hF
  refine rx_ci (rx_rV C (w_X9_thrown e_y3 b_m) Y_X9_thrown V_X9_thrown m_L_148 (Or.inl ⟨_, _, _, _, b_m.1, rfl⟩) ⟨⟨rfl, rfl⟩, ⟨(Nat.le_of_ble_eq_true rfl), (Nat.le_of_ble_eq_true rfl)⟩, ⟨by show _ ≤ 601024; omega, by show _ ≤ 7293034; omega⟩⟩ rfl rfl (Nat.le_of_ble_eq_true rfl) dL_law_1930) (fun r hh n1 hpp => ?_)
  obtain ⟨rfl, hu⟩ := hpp
  cases hu
  refine rx_iload C dL_law_1933 1 rfl ?_
  refine rx_icmp_eq C dL_law_1935 1940 (by decide) (fun c4 => ?_) (fun c4 => ?_)
  · rw [if_pos c4] at hF
    refine rx_iload C dL_law_1940 1 rfl ?_
    refine rx_if_ne C dL_law_1942 1964 (by decide) (fun c5 => ?_) (fun c5 => ?_)
    · rw [if_neg c5] at hF
      refine rx_goto C dL_law_1964 3126 (by decide) ?_
      obtain rfl := Option.some.inj hF
      refine rx_sub [2, 3, 4, 5, 6] rfl ?_
      exact rx_wide (cells + 3) (slots + 18) (by omega) (by omega) (KK _ _ (hn0) b_m b_L fr)
    · rw [if_pos c5] at hF
      refine rx_aload_n C dL_law_1945 5 rfl ?_
      refine rx_iconst C dL_law_1946 (0 : Int32) (by decide) ?_
      refine rx_ldL C dL_law_1947 b_L ?_
      refine rx_iload C dL_law_1948 0 rfl ?_
      refine rx_if_eq C dL_law_1950 1957 (by decide) (fun c6 => ?_) (fun c6 => ?_)
      · rw [if_pos c6] at hF
        refine rx_lconst C dL_law_1957 0 (by decide) ?_
        refine rx_lcmp C dL_law_1958 ?_
        refine rx_if_eq C dL_law_1959 1964 (by decide) (fun c7 => ?_) (fun c7 => ?_)
        · rw [if_pos c7] at hF
          refine rx_goto C dL_law_1964 3126 (by decide) ?_
          obtain rfl := Option.some.inj hF
          refine rx_sub [2, 3, 4, 5, 6] rfl ?_
          exact rx_wide (cells + 3) (slots + 18) (by omega) (by omega) (KK _ _ (hn0) b_m b_L fr)
        · rw [if_neg c7] at hF
          refine rx_iconst C dL_law_1962 (0 : Int32) (by decide) ?_
          cases hF
      · rw [if_neg c6] at hF
        refine rx_lconst C dL_law_1953 1 (by decide) ?_
        refine rx_goto C dL_law_1954 1958 (by decide) ?_
        refine rx_lcmp C dL_law_1958 ?_
        refine rx_if_eq C dL_law_1959 1964 (by decide) (fun c8 => ?_) (fun c8 => ?_)
        · rw [if_pos c8] at hF
          refine rx_goto C dL_law_1964 3126 (by decide) ?_
          obtain rfl := Option.some.inj hF
          refine rx_sub [2, 3, 4, 5, 6] rfl ?_
          exact rx_wide (cells + 3) (slots + 18) (by omega) (by omega) (KK _ _ (hn0) b_m b_L fr)
        · rw [if_neg c8] at hF
          refine rx_iconst C dL_law_1962 (0 : Int32) (by decide) ?_
          cases hF
  · rw [if_neg c4] at hF
    refine rx_iconst C dL_law_1938 (0 : Int32) (by decide) ?_
    cases hF
def F_case_39 (oB : ob) (os : ob) (op : ob) (om : ob) : Option (ob) := (F_X8_room oB os op).bind fun y1 => (F_X9_room om).bind fun y2 => if y1 = y2.1 then (some y2.2) else (none)
set_option maxRecDepth 100000 in
set_option maxHeartbeats 4000000 in
theorem lc_39 {b : Nat} {oB : ob} {os : ob} {op : ob} {om : ob} {y : ob} (hst : l.stackTraces = false) (hF : F_case_39 oB os op om = some y) (C : rx_C G k P9 M9 c9 cL_law RL 9 ret9 S9 A9 me9) (hN : rx_NC S9) (hX : va_X sc len xs S9 S9.heap) (hbl : sc < S9.heap.size) (hbA : ¬ k 0 ≤ sc) (hcl : cells + 3 ≤ 601024) (hsl : slots + 18 ≤ 7293034) (b_B : bB k b oB h) (b_s : bS k (b + 12) os h) (b_p : bP k (b + 21) (b + 12) op h) (b_m : bM k (b + 204) om h) (KK : ∀ (hh : hp) (n1 : Nat), n ≤ n1 → bM k (b + 204) y hh → rx_fr [(b + 204, 9)] h hh → rx_W P9 l E9 room_1 S9 M9 A9 B9 me9 c9 Q9 G k 9 (cells + 3) (slots + 18) hh n1 3126 [(0, .ref sc), (1, .ref b), (2, .ref (b + 204)), (3, .ref (b + 213)), (4, .int x4)] []) : rx_W P9 l E9 room_1 S9 M9 A9 B9 me9 c9 Q9 G k 9 cells slots h n 1967 [(0, .ref sc), (1, .ref b), (2, .ref (b + 204)), (3, .ref (b + 213)), (4, .int x4)] [] := by
  have s_B_m : b + 1 ≤ b + 204 ∨ b + 204 + 9 ≤ b := by omega
  have s_s_m : b + 12 + 9 ≤ b + 204 ∨ b + 204 + 9 ≤ b + 12 := by omega
  have s_p_m : b + 21 + 10 ≤ b + 204 ∨ b + 204 + 9 ≤ b + 21 := by omega
  unfold F_case_39 at hF
  have fr : rx_fr [(b + 204, 9)] h h := rx_fr0
  refine rx_aload_n C dL_law_1967 1 rfl ?_
  replace hF := rx_biE hF; obtain ⟨y1, e_y1, hF⟩ := hF
  refine rx_ci (rx_rV C (w_X8_room e_y1 b_B b_s b_p) Y_X8_room V_X8_room m_L_285 (Or.inl ⟨_, _, _, _, b_B, rfl⟩) ⟨⟨rfl, rfl⟩, ⟨(Nat.le_of_ble_eq_true rfl), (Nat.le_of_ble_eq_true rfl)⟩, ⟨by show _ ≤ 601024; omega, by show _ ≤ 7293034; omega⟩⟩ rfl rfl (Nat.le_of_ble_eq_true rfl) dL_law_1968) (fun r hh n1 hpp => ?_)
  obtain ⟨rfl, hu⟩ := hpp
  cases hu
  refine rx_aload_n C dL_law_1971 2 rfl ?_
  replace hF := rx_biE hF; obtain ⟨y2, e_y2, hF⟩ := hF
  refine rx_ci (rx_rV C (w_X9_room e_y2 b_m) Y_X9_room V_X9_room m_L_288 (Or.inl ⟨_, _, _, _, b_m.1, rfl⟩) ⟨⟨rfl, rfl⟩, ⟨(Nat.le_of_ble_eq_true rfl), (Nat.le_of_ble_eq_true rfl)⟩, ⟨by show _ ≤ 601024; omega, by show _ ≤ 7293034; omega⟩⟩ rfl rfl (Nat.le_of_ble_eq_true rfl) dL_law_1972) (fun r hh n1 hpp => ?_)
  obtain ⟨rfl, hn, c_m, ff⟩ := hpp
  replace hn : n = n1 := Eq.symm hn
  subst hn
  replace b_m : bM k (b + 204) y2.2 hh := c_m
  clear c_m
  replace ff : rx_fr [(b + 204, 9)] _ hh := ff
  replace b_B := b_B.keep ff ⟨s_B_m, trivial⟩
  replace b_s := b_s.keep ff ⟨s_s_m, trivial⟩
  replace b_p := b_p.keep ff ⟨s_p_m, trivial⟩
  replace fr := rx_frt fr ff (fun a ha => ⟨ha.1, trivial⟩)
  refine rx_icmp_eq C dL_law_1975 3126 (by decide) (fun c3 => ?_) (fun c3 => ?_)
  · rw [if_pos c3] at hF
    obtain rfl := Option.some.inj hF
    exact rx_wide (cells + 3) (slots + 18) (by omega) (by omega) (KK _ _ (Nat.le_refl _) b_m fr)
  · rw [if_neg c3] at hF
    refine rx_iconst C dL_law_1978 (0 : Int32) (by decide) ?_
    cases hF
def F_case_40 (oB : ob) (os : ob) (op : ob) (ow : ob) (oe : ob) (om : ob) (oL : (Nat → Int64)) (a1 : Int32) : Option (ob × (Nat → Int64)) := (F_L_firstPlaceOffer oB os op ow oe oL a1).bind fun y1 => (F_X9_firstPlaceOffer om a1).bind fun y2 => (F_X9_thrown y2.2).bind fun y3 => if y3 = y1.1 then (if y1.1 = (0 : Int32) then (if (lg_cmp ((y1.2 0)) y2.1.toInt64) = (0 : Int32) then (some (y2.2, y1.2)) else (none)) else (some (y2.2, y1.2))) else (none)
set_option maxRecDepth 100000 in
set_option maxHeartbeats 4000000 in
theorem lc_40 {b : Nat} {oB : ob} {os : ob} {op : ob} {ow : ob} {oe : ob} {om : ob} {oL : (Nat → Int64)} {a1 : Int32} {y : ob × (Nat → Int64)} (hst : l.stackTraces = false) (hF : F_case_40 oB os op ow oe om oL a1 = some y) (C : rx_C G k P9 M9 c9 cL_law RL 9 ret9 S9 A9 me9) (hN : rx_NC S9) (hX : va_X sc len xs S9 S9.heap) (hbl : sc < S9.heap.size) (hbA : ¬ k 0 ≤ sc) (h1 : vp_in (x4 + (1 : Int32)) len ∧ xs (x4 + (1 : Int32)).toNatClampNeg = a1) (hcl : cells + 3 ≤ 601024) (hsl : slots + 18 ≤ 7293034) (b_B : bB k b oB h) (b_s : bS k (b + 12) os h) (b_p : bP k (b + 21) (b + 12) op h) (b_w : bQ k (b + 21 + 10) ow h) (b_e : bQ k (b + 21 + 13) oe h) (b_m : bM k (b + 204) om h) (b_L : bL k (b + 213) oL h) (KK : ∀ (hh : hp) (n1 : Nat), n ≤ n1 → bM k (b + 204) y.1 hh → bL k (b + 213) y.2 hh → rx_fr [(b + 204, 9), (b + 213, 1)] h hh → rx_W P9 l E9 room_1 S9 M9 A9 B9 me9 c9 Q9 G k 9 (cells + 3) (slots + 18) hh n1 3126 [(0, .ref sc), (1, .ref b), (2, .ref (b + 204)), (3, .ref (b + 213)), (4, .int x4)] []) : rx_W P9 l E9 room_1 S9 M9 A9 B9 me9 c9 Q9 G k 9 cells slots h n 1980 [(0, .ref sc), (1, .ref b), (2, .ref (b + 204)), (3, .ref (b + 213)), (4, .int x4)] [] := by
  have s_B_L : b + 1 ≤ b + 213 ∨ b + 213 + 1 ≤ b := by omega
  have s_s_L : b + 12 + 9 ≤ b + 213 ∨ b + 213 + 1 ≤ b + 12 := by omega
  have s_p_L : b + 21 + 10 ≤ b + 213 ∨ b + 213 + 1 ≤ b + 21 := by omega
  have s_w_L : b + 21 + 10 + 3 ≤ b + 213 ∨ b + 213 + 1 ≤ b + 21 + 10 := by omega
  have s_e_L : b + 21 + 13 + 3 ≤ b + 213 ∨ b + 213 + 1 ≤ b + 21 + 13 := by omega
  have s_m_L : b + 204 + 9 ≤ b + 213 ∨ b + 213 + 1 ≤ b + 204 := by omega
  have s_B_m : b + 1 ≤ b + 204 ∨ b + 204 + 9 ≤ b := by omega
  have s_s_m : b + 12 + 9 ≤ b + 204 ∨ b + 204 + 9 ≤ b + 12 := by omega
  have s_p_m : b + 21 + 10 ≤ b + 204 ∨ b + 204 + 9 ≤ b + 21 := by omega
  have s_w_m : b + 21 + 10 + 3 ≤ b + 204 ∨ b + 204 + 9 ≤ b + 21 + 10 := by omega
  have s_e_m : b + 21 + 13 + 3 ≤ b + 204 ∨ b + 204 + 9 ≤ b + 21 + 13 := by omega
  have s_L_m : b + 213 + 1 ≤ b + 204 ∨ b + 204 + 9 ≤ b + 213 := by omega
  unfold F_case_40 at hF
  have fr : rx_fr [(b + 204, 9), (b + 213, 1)] h h := rx_fr0
  refine rx_aload_n C dL_law_1980 1 rfl ?_
  refine rx_aload_n C dL_law_1981 0 rfl ?_
  refine rx_iload C dL_law_1982 4 rfl ?_
  refine rx_iconst C dL_law_1984 (1 : Int32) (by decide) ?_
  refine rx_iadd C dL_law_1985 ?_
  refine rx_sld C hX hbl hbA h1 dL_law_1986 ?_
  refine rx_aload_n C dL_law_1987 3 rfl ?_
  replace hF := rx_biE hF; obtain ⟨y1, e_y1, hF⟩ := hF
  refine rx_xci (rx_rSX C hN (w_L_firstPlaceOffer hst e_y1 b_B b_s b_p b_w b_e b_L (by omega)) Y_L_firstPlaceOffer S_L_firstPlaceOffer m_L_289 ⟨⟨rfl, rfl⟩, ⟨(Nat.le_of_ble_eq_true rfl), (Nat.le_of_ble_eq_true rfl)⟩, ⟨by show _ ≤ 601024; omega, by show _ ≤ 7293034; omega⟩⟩ rfl rfl (Nat.le_of_ble_eq_true rfl) dL_law_1988) (fun E hh n1 hx => hx.elim) (fun r hh n hpp => ?_)
  obtain ⟨rfl, hn0, c_L, ff⟩ := hpp
  replace b_L : bL k (b + 213) y1.2 hh := c_L
  clear c_L
  replace ff : rx_fr [(b + 213, 1)] _ hh := ff
  replace b_B := b_B.keep ff ⟨s_B_L, trivial⟩
  replace b_s := b_s.keep ff ⟨s_s_L, trivial⟩
  replace b_p := b_p.keep ff ⟨s_p_L, trivial⟩
  replace b_w := b_w.keep ff ⟨s_w_L, trivial⟩
  replace b_e := b_e.keep ff ⟨s_e_L, trivial⟩
  replace b_m := b_m.keep ff ⟨s_m_L, trivial⟩
  replace fr := rx_frt fr ff (fun a ha => ⟨ha.2.1, trivial⟩)
  refine rx_istore C dL_law_1991 (by decide) [(5, .int y1.1), (0, .ref sc), (1, .ref b), (2, .ref (b + 204)), (3, .ref (b + 213)), (4, .int x4)] rfl ?_
  refine rx_aload_n C dL_law_1993 3 rfl ?_
  refine rx_aload_n C dL_law_1994 1 rfl ?_
  refine rx_iload C dL_law_1995 5 rfl ?_
  refine rx_iconst C dL_law_1997 (1 : Int32) (by decide) ?_
  refine rx_iadd C dL_law_1998 ?_
  refine rx_sld C hX hbl hbA h1 dL_law_1999 ?_
  replace hF := rx_biE hF; obtain ⟨y2, e_y2, hF⟩ := hF
  refine rx_ci (rx_rV C (w_X9_firstPlaceOffer e_y2 b_m) Y_X9_firstPlaceOffer V_X9_firstPlaceOffer m_L_291 (Or.inl ⟨_, _, _, _, b_m.1, rfl⟩) ⟨⟨rfl, rfl⟩, ⟨(Nat.le_of_ble_eq_true rfl), (Nat.le_of_ble_eq_true rfl)⟩, ⟨by show _ ≤ 601024; omega, by show _ ≤ 7293034; omega⟩⟩ rfl rfl (Nat.le_of_ble_eq_true rfl) dL_law_2000) (fun r hh n1 hpp => ?_)
  obtain ⟨rfl, hn, c_m, ff⟩ := hpp
  replace hn : n = n1 := Eq.symm hn
  subst hn
  replace b_m : bM k (b + 204) y2.2 hh := c_m
  clear c_m
  replace ff : rx_fr [(b + 204, 9)] _ hh := ff
  replace b_B := b_B.keep ff ⟨s_B_m, trivial⟩
  replace b_s := b_s.keep ff ⟨s_s_m, trivial⟩
  replace b_p := b_p.keep ff ⟨s_p_m, trivial⟩
  replace b_w := b_w.keep ff ⟨s_w_m, trivial⟩
  replace b_e := b_e.keep ff ⟨s_e_m, trivial⟩
  replace b_L := b_L.keep ff ⟨s_L_m, trivial⟩
  replace fr := rx_frt fr ff (fun a ha => ⟨ha.1, trivial⟩)
  refine rx_istore C dL_law_2003 (by decide) [(6, .int y2.1), (5, .int y1.1), (0, .ref sc), (1, .ref b), (2, .ref (b + 204)), (3, .ref (b + 213)), (4, .int x4)] rfl ?_
  refine rx_aload_n C dL_law_2005 4 rfl ?_
  replace hF := rx_biE hF; obtain ⟨y3, e_y3, hF⟩ := hF
  refine rx_ci (rx_rV C (w_X9_thrown e_y3 b_m) Y_X9_thrown V_X9_thrown m_L_148 (Or.inl ⟨_, _, _, _, b_m.1, rfl⟩) ⟨⟨rfl, rfl⟩, ⟨(Nat.le_of_ble_eq_true rfl), (Nat.le_of_ble_eq_true rfl)⟩, ⟨by show _ ≤ 601024; omega, by show _ ≤ 7293034; omega⟩⟩ rfl rfl (Nat.le_of_ble_eq_true rfl) dL_law_2006) (fun r hh n1 hpp => ?_)
  obtain ⟨rfl, hu⟩ := hpp
  cases hu
  refine rx_iload C dL_law_2009 1 rfl ?_
  refine rx_icmp_eq C dL_law_2011 2016 (by decide) (fun c4 => ?_) (fun c4 => ?_)
  · rw [if_pos c4] at hF
    refine rx_iload C dL_law_2016 1 rfl ?_
    refine rx_if_ne C dL_law_2018 2033 (by decide) (fun c5 => ?_) (fun c5 => ?_)
    · rw [if_neg c5] at hF
      refine rx_goto C dL_law_2033 3126 (by decide) ?_
      obtain rfl := Option.some.inj hF
      refine rx_sub [2, 3, 4, 5, 6] rfl ?_
      exact rx_wide (cells + 3) (slots + 18) (by omega) (by omega) (KK _ _ (hn0) b_m b_L fr)
    · rw [if_pos c5] at hF
      refine rx_aload_n C dL_law_2021 5 rfl ?_
      refine rx_iconst C dL_law_2022 (0 : Int32) (by decide) ?_
      refine rx_ldL C dL_law_2023 b_L ?_
      refine rx_iload C dL_law_2024 0 rfl ?_
      refine rx_i2l C dL_law_2026 ?_
      refine rx_lcmp C dL_law_2027 ?_
      refine rx_if_eq C dL_law_2028 2033 (by decide) (fun c6 => ?_) (fun c6 => ?_)
      · rw [if_pos c6] at hF
        refine rx_goto C dL_law_2033 3126 (by decide) ?_
        obtain rfl := Option.some.inj hF
        refine rx_sub [2, 3, 4, 5, 6] rfl ?_
        exact rx_wide (cells + 3) (slots + 18) (by omega) (by omega) (KK _ _ (hn0) b_m b_L fr)
      · rw [if_neg c6] at hF
        refine rx_iconst C dL_law_2031 (0 : Int32) (by decide) ?_
        cases hF
  · rw [if_neg c4] at hF
    refine rx_iconst C dL_law_2014 (0 : Int32) (by decide) ?_
    cases hF
def F_case_41 (oB : ob) (os : ob) (op : ob) (ow : ob) (oe : ob) (ofp : ob) (ofw : ob) (ofe : ob) (om : ob) (oL : (Nat → Int64)) (a1 : Int32) : Option (ob × ob × ob × ob × (Nat → Int64)) := (F_L_turnsUntilCrossing oB os op ow oe ofp ofw ofe oL a1).bind fun y1 => (F_X9_turnsUntilCrossing om a1).bind fun y2 => (F_X9_thrown y2.2).bind fun y3 => if y3 = y1.1 then (if y1.1 = (0 : Int32) then (if (lg_cmp ((y1.2.2.2.2 0)) y2.1.toInt64) = (0 : Int32) then (some (y1.2.1, y1.2.2.1, y1.2.2.2.1, y2.2, y1.2.2.2.2)) else (none)) else (some (y1.2.1, y1.2.2.1, y1.2.2.2.1, y2.2, y1.2.2.2.2))) else (none)
set_option maxRecDepth 100000 in
set_option maxHeartbeats 4000000 in
theorem lc_41 {b : Nat} {oB : ob} {os : ob} {op : ob} {ow : ob} {oe : ob} {ofp : ob} {ofw : ob} {ofe : ob} {om : ob} {oL : (Nat → Int64)} {a1 : Int32} {y : ob × ob × ob × ob × (Nat → Int64)} (hst : l.stackTraces = false) (hF : F_case_41 oB os op ow oe ofp ofw ofe om oL a1 = some y) (C : rx_C G k P9 M9 c9 cL_law RL 9 ret9 S9 A9 me9) (hN : rx_NC S9) (hX : va_X sc len xs S9 S9.heap) (hbl : sc < S9.heap.size) (hbA : ¬ k 0 ≤ sc) (h1 : vp_in (x4 + (1 : Int32)) len ∧ xs (x4 + (1 : Int32)).toNatClampNeg = a1) (hcl : cells + 3 ≤ 601024) (hsl : slots + 18 ≤ 7293034) (b_B : bB k b oB h) (b_s : bS k (b + 12) os h) (b_p : bP k (b + 21) (b + 12) op h) (b_w : bQ k (b + 21 + 10) ow h) (b_e : bQ k (b + 21 + 13) oe h) (b_fp : bP k (b + 37) (b + 12) ofp h) (b_fw : bQ k (b + 37 + 10) ofw h) (b_fe : bQ k (b + 37 + 13) ofe h) (b_m : bM k (b + 204) om h) (b_L : bL k (b + 213) oL h) (KK : ∀ (hh : hp) (n1 : Nat), n ≤ n1 → bP k (b + 37) (b + 12) y.1 hh → bQ k (b + 37 + 10) y.2.1 hh → bQ k (b + 37 + 13) y.2.2.1 hh → bM k (b + 204) y.2.2.2.1 hh → bL k (b + 213) y.2.2.2.2 hh → rx_fr [(b + 37, 10), (b + 37 + 10, 3), (b + 37 + 13, 3), (b + 204, 9), (b + 213, 1)] h hh → rx_W P9 l E9 room_1 S9 M9 A9 B9 me9 c9 Q9 G k 9 (cells + 3) (slots + 18) hh n1 3126 [(0, .ref sc), (1, .ref b), (2, .ref (b + 204)), (3, .ref (b + 213)), (4, .int x4)] []) : rx_W P9 l E9 room_1 S9 M9 A9 B9 me9 c9 Q9 G k 9 cells slots h n 2036 [(0, .ref sc), (1, .ref b), (2, .ref (b + 204)), (3, .ref (b + 213)), (4, .int x4)] [] := by
  have s_B_fp : b + 1 ≤ b + 37 ∨ b + 37 + 10 ≤ b := by omega
  have s_B_fw : b + 1 ≤ b + 37 + 10 ∨ b + 37 + 10 + 3 ≤ b := by omega
  have s_B_fe : b + 1 ≤ b + 37 + 13 ∨ b + 37 + 13 + 3 ≤ b := by omega
  have s_B_L : b + 1 ≤ b + 213 ∨ b + 213 + 1 ≤ b := by omega
  have s_s_fp : b + 12 + 9 ≤ b + 37 ∨ b + 37 + 10 ≤ b + 12 := by omega
  have s_s_fw : b + 12 + 9 ≤ b + 37 + 10 ∨ b + 37 + 10 + 3 ≤ b + 12 := by omega
  have s_s_fe : b + 12 + 9 ≤ b + 37 + 13 ∨ b + 37 + 13 + 3 ≤ b + 12 := by omega
  have s_s_L : b + 12 + 9 ≤ b + 213 ∨ b + 213 + 1 ≤ b + 12 := by omega
  have s_p_fp : b + 21 + 10 ≤ b + 37 ∨ b + 37 + 10 ≤ b + 21 := by omega
  have s_p_fw : b + 21 + 10 ≤ b + 37 + 10 ∨ b + 37 + 10 + 3 ≤ b + 21 := by omega
  have s_p_fe : b + 21 + 10 ≤ b + 37 + 13 ∨ b + 37 + 13 + 3 ≤ b + 21 := by omega
  have s_p_L : b + 21 + 10 ≤ b + 213 ∨ b + 213 + 1 ≤ b + 21 := by omega
  have s_w_fp : b + 21 + 10 + 3 ≤ b + 37 ∨ b + 37 + 10 ≤ b + 21 + 10 := by omega
  have s_w_fw : b + 21 + 10 + 3 ≤ b + 37 + 10 ∨ b + 37 + 10 + 3 ≤ b + 21 + 10 := by omega
  have s_w_fe : b + 21 + 10 + 3 ≤ b + 37 + 13 ∨ b + 37 + 13 + 3 ≤ b + 21 + 10 := by omega
  have s_w_L : b + 21 + 10 + 3 ≤ b + 213 ∨ b + 213 + 1 ≤ b + 21 + 10 := by omega
  have s_e_fp : b + 21 + 13 + 3 ≤ b + 37 ∨ b + 37 + 10 ≤ b + 21 + 13 := by omega
  have s_e_fw : b + 21 + 13 + 3 ≤ b + 37 + 10 ∨ b + 37 + 10 + 3 ≤ b + 21 + 13 := by omega
  have s_e_fe : b + 21 + 13 + 3 ≤ b + 37 + 13 ∨ b + 37 + 13 + 3 ≤ b + 21 + 13 := by omega
  have s_e_L : b + 21 + 13 + 3 ≤ b + 213 ∨ b + 213 + 1 ≤ b + 21 + 13 := by omega
  have s_m_fp : b + 204 + 9 ≤ b + 37 ∨ b + 37 + 10 ≤ b + 204 := by omega
  have s_m_fw : b + 204 + 9 ≤ b + 37 + 10 ∨ b + 37 + 10 + 3 ≤ b + 204 := by omega
  have s_m_fe : b + 204 + 9 ≤ b + 37 + 13 ∨ b + 37 + 13 + 3 ≤ b + 204 := by omega
  have s_m_L : b + 204 + 9 ≤ b + 213 ∨ b + 213 + 1 ≤ b + 204 := by omega
  have s_B_m : b + 1 ≤ b + 204 ∨ b + 204 + 9 ≤ b := by omega
  have s_s_m : b + 12 + 9 ≤ b + 204 ∨ b + 204 + 9 ≤ b + 12 := by omega
  have s_p_m : b + 21 + 10 ≤ b + 204 ∨ b + 204 + 9 ≤ b + 21 := by omega
  have s_w_m : b + 21 + 10 + 3 ≤ b + 204 ∨ b + 204 + 9 ≤ b + 21 + 10 := by omega
  have s_e_m : b + 21 + 13 + 3 ≤ b + 204 ∨ b + 204 + 9 ≤ b + 21 + 13 := by omega
  have s_fp_m : b + 37 + 10 ≤ b + 204 ∨ b + 204 + 9 ≤ b + 37 := by omega
  have s_fw_m : b + 37 + 10 + 3 ≤ b + 204 ∨ b + 204 + 9 ≤ b + 37 + 10 := by omega
  have s_fe_m : b + 37 + 13 + 3 ≤ b + 204 ∨ b + 204 + 9 ≤ b + 37 + 13 := by omega
  have s_L_m : b + 213 + 1 ≤ b + 204 ∨ b + 204 + 9 ≤ b + 213 := by omega
  unfold F_case_41 at hF
  have fr : rx_fr [(b + 37, 10), (b + 37 + 10, 3), (b + 37 + 13, 3), (b + 204, 9), (b + 213, 1)] h h := rx_fr0
  refine rx_aload_n C dL_law_2036 1 rfl ?_
  refine rx_aload_n C dL_law_2037 0 rfl ?_
  refine rx_iload C dL_law_2038 4 rfl ?_
  refine rx_iconst C dL_law_2040 (1 : Int32) (by decide) ?_
  refine rx_iadd C dL_law_2041 ?_
  refine rx_sld C hX hbl hbA h1 dL_law_2042 ?_
  refine rx_aload_n C dL_law_2043 3 rfl ?_
  replace hF := rx_biE hF; obtain ⟨y1, e_y1, hF⟩ := hF
  refine rx_xci (rx_rSX C hN (w_L_turnsUntilCrossing hst e_y1 b_B b_s b_p b_w b_e b_fp b_fw b_fe b_L (by omega)) Y_L_turnsUntilCrossing S_L_turnsUntilCrossing m_L_292 ⟨⟨rfl, rfl⟩, ⟨(Nat.le_of_ble_eq_true rfl), (Nat.le_of_ble_eq_true rfl)⟩, ⟨by show _ ≤ 601024; omega, by show _ ≤ 7293034; omega⟩⟩ rfl rfl (Nat.le_of_ble_eq_true rfl) dL_law_2044) (fun E hh n1 hx => hx.elim) (fun r hh n hpp => ?_)
  obtain ⟨rfl, hn0, c_fp, c_fw, c_fe, c_L, ff⟩ := hpp
  replace b_fp : bP k (b + 37) (b + 12) y1.2.1 hh := c_fp
  clear c_fp
  replace b_fw : bQ k (b + 37 + 10) y1.2.2.1 hh := c_fw
  clear c_fw
  replace b_fe : bQ k (b + 37 + 13) y1.2.2.2.1 hh := c_fe
  clear c_fe
  replace b_L : bL k (b + 213) y1.2.2.2.2 hh := c_L
  clear c_L
  replace ff : rx_fr [(b + 37, 10), (b + 37 + 10, 3), (b + 37 + 13, 3), (b + 213, 1)] _ hh := ff
  replace b_B := b_B.keep ff ⟨s_B_fp, s_B_fw, s_B_fe, s_B_L, trivial⟩
  replace b_s := b_s.keep ff ⟨s_s_fp, s_s_fw, s_s_fe, s_s_L, trivial⟩
  replace b_p := b_p.keep ff ⟨s_p_fp, s_p_fw, s_p_fe, s_p_L, trivial⟩
  replace b_w := b_w.keep ff ⟨s_w_fp, s_w_fw, s_w_fe, s_w_L, trivial⟩
  replace b_e := b_e.keep ff ⟨s_e_fp, s_e_fw, s_e_fe, s_e_L, trivial⟩
  replace b_m := b_m.keep ff ⟨s_m_fp, s_m_fw, s_m_fe, s_m_L, trivial⟩
  replace fr := rx_frt fr ff (fun a ha => ⟨ha.1, ha.2.1, ha.2.2.1, ha.2.2.2.2.1, trivial⟩)
  refine rx_istore C dL_law_2047 (by decide) [(5, .int y1.1), (0, .ref sc), (1, .ref b), (2, .ref (b + 204)), (3, .ref (b + 213)), (4, .int x4)] rfl ?_
  refine rx_aload_n C dL_law_2049 3 rfl ?_
  refine rx_aload_n C dL_law_2050 1 rfl ?_
  refine rx_iload C dL_law_2051 5 rfl ?_
  refine rx_iconst C dL_law_2053 (1 : Int32) (by decide) ?_
  refine rx_iadd C dL_law_2054 ?_
  refine rx_sld C hX hbl hbA h1 dL_law_2055 ?_
  replace hF := rx_biE hF; obtain ⟨y2, e_y2, hF⟩ := hF
  refine rx_ci (rx_rV C (w_X9_turnsUntilCrossing e_y2 b_m) Y_X9_turnsUntilCrossing V_X9_turnsUntilCrossing m_L_294 (Or.inl ⟨_, _, _, _, b_m.1, rfl⟩) ⟨⟨rfl, rfl⟩, ⟨(Nat.le_of_ble_eq_true rfl), (Nat.le_of_ble_eq_true rfl)⟩, ⟨by show _ ≤ 601024; omega, by show _ ≤ 7293034; omega⟩⟩ rfl rfl (Nat.le_of_ble_eq_true rfl) dL_law_2056) (fun r hh n1 hpp => ?_)
  obtain ⟨rfl, hn, c_m, ff⟩ := hpp
  replace hn : n = n1 := Eq.symm hn
  subst hn
  replace b_m : bM k (b + 204) y2.2 hh := c_m
  clear c_m
  replace ff : rx_fr [(b + 204, 9)] _ hh := ff
  replace b_B := b_B.keep ff ⟨s_B_m, trivial⟩
  replace b_s := b_s.keep ff ⟨s_s_m, trivial⟩
  replace b_p := b_p.keep ff ⟨s_p_m, trivial⟩
  replace b_w := b_w.keep ff ⟨s_w_m, trivial⟩
  replace b_e := b_e.keep ff ⟨s_e_m, trivial⟩
  replace b_fp := b_fp.keep ff ⟨s_fp_m, trivial⟩
  replace b_fw := b_fw.keep ff ⟨s_fw_m, trivial⟩
  replace b_fe := b_fe.keep ff ⟨s_fe_m, trivial⟩
  replace b_L := b_L.keep ff ⟨s_L_m, trivial⟩
  replace fr := rx_frt fr ff (fun a ha => ⟨ha.2.2.2.1, trivial⟩)
  refine rx_istore C dL_law_2059 (by decide) [(6, .int y2.1), (5, .int y1.1), (0, .ref sc), (1, .ref b), (2, .ref (b + 204)), (3, .ref (b + 213)), (4, .int x4)] rfl ?_
  refine rx_aload_n C dL_law_2061 4 rfl ?_
  replace hF := rx_biE hF; obtain ⟨y3, e_y3, hF⟩ := hF
  refine rx_ci (rx_rV C (w_X9_thrown e_y3 b_m) Y_X9_thrown V_X9_thrown m_L_148 (Or.inl ⟨_, _, _, _, b_m.1, rfl⟩) ⟨⟨rfl, rfl⟩, ⟨(Nat.le_of_ble_eq_true rfl), (Nat.le_of_ble_eq_true rfl)⟩, ⟨by show _ ≤ 601024; omega, by show _ ≤ 7293034; omega⟩⟩ rfl rfl (Nat.le_of_ble_eq_true rfl) dL_law_2062) (fun r hh n1 hpp => ?_)
  obtain ⟨rfl, hu⟩ := hpp
  cases hu
  refine rx_iload C dL_law_2065 1 rfl ?_
  refine rx_icmp_eq C dL_law_2067 2072 (by decide) (fun c4 => ?_) (fun c4 => ?_)
  · rw [if_pos c4] at hF
    refine rx_iload C dL_law_2072 1 rfl ?_
    refine rx_if_ne C dL_law_2074 2089 (by decide) (fun c5 => ?_) (fun c5 => ?_)
    · rw [if_neg c5] at hF
      refine rx_goto C dL_law_2089 3126 (by decide) ?_
      obtain rfl := Option.some.inj hF
      refine rx_sub [2, 3, 4, 5, 6] rfl ?_
      exact rx_wide (cells + 3) (slots + 18) (by omega) (by omega) (KK _ _ (hn0) b_fp b_fw b_fe b_m b_L fr)
    · rw [if_pos c5] at hF
      refine rx_aload_n C dL_law_2077 5 rfl ?_
      refine rx_iconst C dL_law_2078 (0 : Int32) (by decide) ?_
      refine rx_ldL C dL_law_2079 b_L ?_
      refine rx_iload C dL_law_2080 0 rfl ?_
      refine rx_i2l C dL_law_2082 ?_
      refine rx_lcmp C dL_law_2083 ?_
      refine rx_if_eq C dL_law_2084 2089 (by decide) (fun c6 => ?_) (fun c6 => ?_)
      · rw [if_pos c6] at hF
        refine rx_goto C dL_law_2089 3126 (by decide) ?_
        obtain rfl := Option.some.inj hF
        refine rx_sub [2, 3, 4, 5, 6] rfl ?_
        exact rx_wide (cells + 3) (slots + 18) (by omega) (by omega) (KK _ _ (hn0) b_fp b_fw b_fe b_m b_L fr)
      · rw [if_neg c6] at hF
        refine rx_iconst C dL_law_2087 (0 : Int32) (by decide) ?_
        cases hF
  · rw [if_neg c4] at hF
    refine rx_iconst C dL_law_2070 (0 : Int32) (by decide) ?_
    cases hF
def F_case_42 (oB : ob) (os : ob) (op : ob) (ow : ob) (oe : ob) (ofp : ob) (ofw : ob) (ofe : ob) (om : ob) (oL : (Nat → Int64)) (a1 : Int32) : Option (ob × ob × ob × ob × (Nat → Int64)) := (F_L_tollBoxAfter oB os op ow oe ofp ofw ofe oL a1).bind fun y1 => (F_X9_tollBoxAfter om a1).bind fun y2 => (F_X9_thrown y2.2).bind fun y3 => if y3 = y1.1 then (if y1.1 = (0 : Int32) then (if (lg_cmp ((y1.2.2.2.2 0)) y2.1.toInt64) = (0 : Int32) then (some (y1.2.1, y1.2.2.1, y1.2.2.2.1, y2.2, y1.2.2.2.2)) else (none)) else (some (y1.2.1, y1.2.2.1, y1.2.2.2.1, y2.2, y1.2.2.2.2))) else (none)
set_option maxRecDepth 100000 in
set_option maxHeartbeats 4000000 in
theorem lc_42 {b : Nat} {oB : ob} {os : ob} {op : ob} {ow : ob} {oe : ob} {ofp : ob} {ofw : ob} {ofe : ob} {om : ob} {oL : (Nat → Int64)} {a1 : Int32} {y : ob × ob × ob × ob × (Nat → Int64)} (hst : l.stackTraces = false) (hF : F_case_42 oB os op ow oe ofp ofw ofe om oL a1 = some y) (C : rx_C G k P9 M9 c9 cL_law RL 9 ret9 S9 A9 me9) (hN : rx_NC S9) (hX : va_X sc len xs S9 S9.heap) (hbl : sc < S9.heap.size) (hbA : ¬ k 0 ≤ sc) (h1 : vp_in (x4 + (1 : Int32)) len ∧ xs (x4 + (1 : Int32)).toNatClampNeg = a1) (hcl : cells + 3 ≤ 601024) (hsl : slots + 18 ≤ 7293034) (b_B : bB k b oB h) (b_s : bS k (b + 12) os h) (b_p : bP k (b + 21) (b + 12) op h) (b_w : bQ k (b + 21 + 10) ow h) (b_e : bQ k (b + 21 + 13) oe h) (b_fp : bP k (b + 37) (b + 12) ofp h) (b_fw : bQ k (b + 37 + 10) ofw h) (b_fe : bQ k (b + 37 + 13) ofe h) (b_m : bM k (b + 204) om h) (b_L : bL k (b + 213) oL h) (KK : ∀ (hh : hp) (n1 : Nat), n ≤ n1 → bP k (b + 37) (b + 12) y.1 hh → bQ k (b + 37 + 10) y.2.1 hh → bQ k (b + 37 + 13) y.2.2.1 hh → bM k (b + 204) y.2.2.2.1 hh → bL k (b + 213) y.2.2.2.2 hh → rx_fr [(b + 37, 10), (b + 37 + 10, 3), (b + 37 + 13, 3), (b + 204, 9), (b + 213, 1)] h hh → rx_W P9 l E9 room_1 S9 M9 A9 B9 me9 c9 Q9 G k 9 (cells + 3) (slots + 18) hh n1 3126 [(0, .ref sc), (1, .ref b), (2, .ref (b + 204)), (3, .ref (b + 213)), (4, .int x4)] []) : rx_W P9 l E9 room_1 S9 M9 A9 B9 me9 c9 Q9 G k 9 cells slots h n 2092 [(0, .ref sc), (1, .ref b), (2, .ref (b + 204)), (3, .ref (b + 213)), (4, .int x4)] [] := by
  have s_B_fp : b + 1 ≤ b + 37 ∨ b + 37 + 10 ≤ b := by omega
  have s_B_fw : b + 1 ≤ b + 37 + 10 ∨ b + 37 + 10 + 3 ≤ b := by omega
  have s_B_fe : b + 1 ≤ b + 37 + 13 ∨ b + 37 + 13 + 3 ≤ b := by omega
  have s_B_L : b + 1 ≤ b + 213 ∨ b + 213 + 1 ≤ b := by omega
  have s_s_fp : b + 12 + 9 ≤ b + 37 ∨ b + 37 + 10 ≤ b + 12 := by omega
  have s_s_fw : b + 12 + 9 ≤ b + 37 + 10 ∨ b + 37 + 10 + 3 ≤ b + 12 := by omega
  have s_s_fe : b + 12 + 9 ≤ b + 37 + 13 ∨ b + 37 + 13 + 3 ≤ b + 12 := by omega
  have s_s_L : b + 12 + 9 ≤ b + 213 ∨ b + 213 + 1 ≤ b + 12 := by omega
  have s_p_fp : b + 21 + 10 ≤ b + 37 ∨ b + 37 + 10 ≤ b + 21 := by omega
  have s_p_fw : b + 21 + 10 ≤ b + 37 + 10 ∨ b + 37 + 10 + 3 ≤ b + 21 := by omega
  have s_p_fe : b + 21 + 10 ≤ b + 37 + 13 ∨ b + 37 + 13 + 3 ≤ b + 21 := by omega
  have s_p_L : b + 21 + 10 ≤ b + 213 ∨ b + 213 + 1 ≤ b + 21 := by omega
  have s_w_fp : b + 21 + 10 + 3 ≤ b + 37 ∨ b + 37 + 10 ≤ b + 21 + 10 := by omega
  have s_w_fw : b + 21 + 10 + 3 ≤ b + 37 + 10 ∨ b + 37 + 10 + 3 ≤ b + 21 + 10 := by omega
  have s_w_fe : b + 21 + 10 + 3 ≤ b + 37 + 13 ∨ b + 37 + 13 + 3 ≤ b + 21 + 10 := by omega
  have s_w_L : b + 21 + 10 + 3 ≤ b + 213 ∨ b + 213 + 1 ≤ b + 21 + 10 := by omega
  have s_e_fp : b + 21 + 13 + 3 ≤ b + 37 ∨ b + 37 + 10 ≤ b + 21 + 13 := by omega
  have s_e_fw : b + 21 + 13 + 3 ≤ b + 37 + 10 ∨ b + 37 + 10 + 3 ≤ b + 21 + 13 := by omega
  have s_e_fe : b + 21 + 13 + 3 ≤ b + 37 + 13 ∨ b + 37 + 13 + 3 ≤ b + 21 + 13 := by omega
  have s_e_L : b + 21 + 13 + 3 ≤ b + 213 ∨ b + 213 + 1 ≤ b + 21 + 13 := by omega
  have s_m_fp : b + 204 + 9 ≤ b + 37 ∨ b + 37 + 10 ≤ b + 204 := by omega
  have s_m_fw : b + 204 + 9 ≤ b + 37 + 10 ∨ b + 37 + 10 + 3 ≤ b + 204 := by omega
  have s_m_fe : b + 204 + 9 ≤ b + 37 + 13 ∨ b + 37 + 13 + 3 ≤ b + 204 := by omega
  have s_m_L : b + 204 + 9 ≤ b + 213 ∨ b + 213 + 1 ≤ b + 204 := by omega
  have s_B_m : b + 1 ≤ b + 204 ∨ b + 204 + 9 ≤ b := by omega
  have s_s_m : b + 12 + 9 ≤ b + 204 ∨ b + 204 + 9 ≤ b + 12 := by omega
  have s_p_m : b + 21 + 10 ≤ b + 204 ∨ b + 204 + 9 ≤ b + 21 := by omega
  have s_w_m : b + 21 + 10 + 3 ≤ b + 204 ∨ b + 204 + 9 ≤ b + 21 + 10 := by omega
  have s_e_m : b + 21 + 13 + 3 ≤ b + 204 ∨ b + 204 + 9 ≤ b + 21 + 13 := by omega
  have s_fp_m : b + 37 + 10 ≤ b + 204 ∨ b + 204 + 9 ≤ b + 37 := by omega
  have s_fw_m : b + 37 + 10 + 3 ≤ b + 204 ∨ b + 204 + 9 ≤ b + 37 + 10 := by omega
  have s_fe_m : b + 37 + 13 + 3 ≤ b + 204 ∨ b + 204 + 9 ≤ b + 37 + 13 := by omega
  have s_L_m : b + 213 + 1 ≤ b + 204 ∨ b + 204 + 9 ≤ b + 213 := by omega
  unfold F_case_42 at hF
  have fr : rx_fr [(b + 37, 10), (b + 37 + 10, 3), (b + 37 + 13, 3), (b + 204, 9), (b + 213, 1)] h h := rx_fr0
  refine rx_aload_n C dL_law_2092 1 rfl ?_
  refine rx_aload_n C dL_law_2093 0 rfl ?_
  refine rx_iload C dL_law_2094 4 rfl ?_
  refine rx_iconst C dL_law_2096 (1 : Int32) (by decide) ?_
  refine rx_iadd C dL_law_2097 ?_
  refine rx_sld C hX hbl hbA h1 dL_law_2098 ?_
  refine rx_aload_n C dL_law_2099 3 rfl ?_
  replace hF := rx_biE hF; obtain ⟨y1, e_y1, hF⟩ := hF
  refine rx_xci (rx_rSX C hN (w_L_tollBoxAfter hst e_y1 b_B b_s b_p b_w b_e b_fp b_fw b_fe b_L (by omega)) Y_L_tollBoxAfter S_L_tollBoxAfter m_L_295 ⟨⟨rfl, rfl⟩, ⟨(Nat.le_of_ble_eq_true rfl), (Nat.le_of_ble_eq_true rfl)⟩, ⟨by show _ ≤ 601024; omega, by show _ ≤ 7293034; omega⟩⟩ rfl rfl (Nat.le_of_ble_eq_true rfl) dL_law_2100) (fun E hh n1 hx => hx.elim) (fun r hh n hpp => ?_)
  obtain ⟨rfl, hn0, c_fp, c_fw, c_fe, c_L, ff⟩ := hpp
  replace b_fp : bP k (b + 37) (b + 12) y1.2.1 hh := c_fp
  clear c_fp
  replace b_fw : bQ k (b + 37 + 10) y1.2.2.1 hh := c_fw
  clear c_fw
  replace b_fe : bQ k (b + 37 + 13) y1.2.2.2.1 hh := c_fe
  clear c_fe
  replace b_L : bL k (b + 213) y1.2.2.2.2 hh := c_L
  clear c_L
  replace ff : rx_fr [(b + 37, 10), (b + 37 + 10, 3), (b + 37 + 13, 3), (b + 213, 1)] _ hh := ff
  replace b_B := b_B.keep ff ⟨s_B_fp, s_B_fw, s_B_fe, s_B_L, trivial⟩
  replace b_s := b_s.keep ff ⟨s_s_fp, s_s_fw, s_s_fe, s_s_L, trivial⟩
  replace b_p := b_p.keep ff ⟨s_p_fp, s_p_fw, s_p_fe, s_p_L, trivial⟩
  replace b_w := b_w.keep ff ⟨s_w_fp, s_w_fw, s_w_fe, s_w_L, trivial⟩
  replace b_e := b_e.keep ff ⟨s_e_fp, s_e_fw, s_e_fe, s_e_L, trivial⟩
  replace b_m := b_m.keep ff ⟨s_m_fp, s_m_fw, s_m_fe, s_m_L, trivial⟩
  replace fr := rx_frt fr ff (fun a ha => ⟨ha.1, ha.2.1, ha.2.2.1, ha.2.2.2.2.1, trivial⟩)
  refine rx_istore C dL_law_2103 (by decide) [(5, .int y1.1), (0, .ref sc), (1, .ref b), (2, .ref (b + 204)), (3, .ref (b + 213)), (4, .int x4)] rfl ?_
  refine rx_aload_n C dL_law_2105 3 rfl ?_
  refine rx_aload_n C dL_law_2106 1 rfl ?_
  refine rx_iload C dL_law_2107 5 rfl ?_
  refine rx_iconst C dL_law_2109 (1 : Int32) (by decide) ?_
  refine rx_iadd C dL_law_2110 ?_
  refine rx_sld C hX hbl hbA h1 dL_law_2111 ?_
  replace hF := rx_biE hF; obtain ⟨y2, e_y2, hF⟩ := hF
  refine rx_ci (rx_rV C (w_X9_tollBoxAfter e_y2 b_m) Y_X9_tollBoxAfter V_X9_tollBoxAfter m_L_297 (Or.inl ⟨_, _, _, _, b_m.1, rfl⟩) ⟨⟨rfl, rfl⟩, ⟨(Nat.le_of_ble_eq_true rfl), (Nat.le_of_ble_eq_true rfl)⟩, ⟨by show _ ≤ 601024; omega, by show _ ≤ 7293034; omega⟩⟩ rfl rfl (Nat.le_of_ble_eq_true rfl) dL_law_2112) (fun r hh n1 hpp => ?_)
  obtain ⟨rfl, hn, c_m, ff⟩ := hpp
  replace hn : n = n1 := Eq.symm hn
  subst hn
  replace b_m : bM k (b + 204) y2.2 hh := c_m
  clear c_m
  replace ff : rx_fr [(b + 204, 9)] _ hh := ff
  replace b_B := b_B.keep ff ⟨s_B_m, trivial⟩
  replace b_s := b_s.keep ff ⟨s_s_m, trivial⟩
  replace b_p := b_p.keep ff ⟨s_p_m, trivial⟩
  replace b_w := b_w.keep ff ⟨s_w_m, trivial⟩
  replace b_e := b_e.keep ff ⟨s_e_m, trivial⟩
  replace b_fp := b_fp.keep ff ⟨s_fp_m, trivial⟩
  replace b_fw := b_fw.keep ff ⟨s_fw_m, trivial⟩
  replace b_fe := b_fe.keep ff ⟨s_fe_m, trivial⟩
  replace b_L := b_L.keep ff ⟨s_L_m, trivial⟩
  replace fr := rx_frt fr ff (fun a ha => ⟨ha.2.2.2.1, trivial⟩)
  refine rx_istore C dL_law_2115 (by decide) [(6, .int y2.1), (5, .int y1.1), (0, .ref sc), (1, .ref b), (2, .ref (b + 204)), (3, .ref (b + 213)), (4, .int x4)] rfl ?_
  refine rx_aload_n C dL_law_2117 4 rfl ?_
  replace hF := rx_biE hF; obtain ⟨y3, e_y3, hF⟩ := hF
  refine rx_ci (rx_rV C (w_X9_thrown e_y3 b_m) Y_X9_thrown V_X9_thrown m_L_148 (Or.inl ⟨_, _, _, _, b_m.1, rfl⟩) ⟨⟨rfl, rfl⟩, ⟨(Nat.le_of_ble_eq_true rfl), (Nat.le_of_ble_eq_true rfl)⟩, ⟨by show _ ≤ 601024; omega, by show _ ≤ 7293034; omega⟩⟩ rfl rfl (Nat.le_of_ble_eq_true rfl) dL_law_2118) (fun r hh n1 hpp => ?_)
  obtain ⟨rfl, hu⟩ := hpp
  cases hu
  refine rx_iload C dL_law_2121 1 rfl ?_
  refine rx_icmp_eq C dL_law_2123 2128 (by decide) (fun c4 => ?_) (fun c4 => ?_)
  · rw [if_pos c4] at hF
    refine rx_iload C dL_law_2128 1 rfl ?_
    refine rx_if_ne C dL_law_2130 2145 (by decide) (fun c5 => ?_) (fun c5 => ?_)
    · rw [if_neg c5] at hF
      refine rx_goto C dL_law_2145 3126 (by decide) ?_
      obtain rfl := Option.some.inj hF
      refine rx_sub [2, 3, 4, 5, 6] rfl ?_
      exact rx_wide (cells + 3) (slots + 18) (by omega) (by omega) (KK _ _ (hn0) b_fp b_fw b_fe b_m b_L fr)
    · rw [if_pos c5] at hF
      refine rx_aload_n C dL_law_2133 5 rfl ?_
      refine rx_iconst C dL_law_2134 (0 : Int32) (by decide) ?_
      refine rx_ldL C dL_law_2135 b_L ?_
      refine rx_iload C dL_law_2136 0 rfl ?_
      refine rx_i2l C dL_law_2138 ?_
      refine rx_lcmp C dL_law_2139 ?_
      refine rx_if_eq C dL_law_2140 2145 (by decide) (fun c6 => ?_) (fun c6 => ?_)
      · rw [if_pos c6] at hF
        refine rx_goto C dL_law_2145 3126 (by decide) ?_
        obtain rfl := Option.some.inj hF
        refine rx_sub [2, 3, 4, 5, 6] rfl ?_
        exact rx_wide (cells + 3) (slots + 18) (by omega) (by omega) (KK _ _ (hn0) b_fp b_fw b_fe b_m b_L fr)
      · rw [if_neg c6] at hF
        refine rx_iconst C dL_law_2143 (0 : Int32) (by decide) ?_
        cases hF
  · rw [if_neg c4] at hF
    refine rx_iconst C dL_law_2126 (0 : Int32) (by decide) ?_
    cases hF
def F_case_43 (oB : ob) (os : ob) (op : ob) (ow : ob) (oe : ob) (ofp : ob) (ofw : ob) (ofe : ob) (om : ob) (oL : (Nat → Int64)) (a1 : Int32) : Option (ob × ob × ob × ob × (Nat → Int64)) := (F_L_limitAngleAfter oB os op ow oe ofp ofw ofe oL a1).bind fun y1 => (F_X9_limitAngleAfter om a1).bind fun y2 => (F_X9_thrown y2.2).bind fun y3 => if y3 = y1.1 then (if y1.1 = (0 : Int32) then (if (lg_cmp ((y1.2.2.2.2 0)) y2.1.toInt64) = (0 : Int32) then (some (y1.2.1, y1.2.2.1, y1.2.2.2.1, y2.2, y1.2.2.2.2)) else (none)) else (some (y1.2.1, y1.2.2.1, y1.2.2.2.1, y2.2, y1.2.2.2.2))) else (none)
set_option maxRecDepth 100000 in
set_option maxHeartbeats 4000000 in
theorem lc_43 {b : Nat} {oB : ob} {os : ob} {op : ob} {ow : ob} {oe : ob} {ofp : ob} {ofw : ob} {ofe : ob} {om : ob} {oL : (Nat → Int64)} {a1 : Int32} {y : ob × ob × ob × ob × (Nat → Int64)} (hst : l.stackTraces = false) (hF : F_case_43 oB os op ow oe ofp ofw ofe om oL a1 = some y) (C : rx_C G k P9 M9 c9 cL_law RL 9 ret9 S9 A9 me9) (hN : rx_NC S9) (hX : va_X sc len xs S9 S9.heap) (hbl : sc < S9.heap.size) (hbA : ¬ k 0 ≤ sc) (h1 : vp_in (x4 + (1 : Int32)) len ∧ xs (x4 + (1 : Int32)).toNatClampNeg = a1) (hcl : cells + 3 ≤ 601024) (hsl : slots + 18 ≤ 7293034) (b_B : bB k b oB h) (b_s : bS k (b + 12) os h) (b_p : bP k (b + 21) (b + 12) op h) (b_w : bQ k (b + 21 + 10) ow h) (b_e : bQ k (b + 21 + 13) oe h) (b_fp : bP k (b + 37) (b + 12) ofp h) (b_fw : bQ k (b + 37 + 10) ofw h) (b_fe : bQ k (b + 37 + 13) ofe h) (b_m : bM k (b + 204) om h) (b_L : bL k (b + 213) oL h) (KK : ∀ (hh : hp) (n1 : Nat), n ≤ n1 → bP k (b + 37) (b + 12) y.1 hh → bQ k (b + 37 + 10) y.2.1 hh → bQ k (b + 37 + 13) y.2.2.1 hh → bM k (b + 204) y.2.2.2.1 hh → bL k (b + 213) y.2.2.2.2 hh → rx_fr [(b + 37, 10), (b + 37 + 10, 3), (b + 37 + 13, 3), (b + 204, 9), (b + 213, 1)] h hh → rx_W P9 l E9 room_1 S9 M9 A9 B9 me9 c9 Q9 G k 9 (cells + 3) (slots + 18) hh n1 3126 [(0, .ref sc), (1, .ref b), (2, .ref (b + 204)), (3, .ref (b + 213)), (4, .int x4)] []) : rx_W P9 l E9 room_1 S9 M9 A9 B9 me9 c9 Q9 G k 9 cells slots h n 2148 [(0, .ref sc), (1, .ref b), (2, .ref (b + 204)), (3, .ref (b + 213)), (4, .int x4)] [] := by
  have s_B_fp : b + 1 ≤ b + 37 ∨ b + 37 + 10 ≤ b := by omega
  have s_B_fw : b + 1 ≤ b + 37 + 10 ∨ b + 37 + 10 + 3 ≤ b := by omega
  have s_B_fe : b + 1 ≤ b + 37 + 13 ∨ b + 37 + 13 + 3 ≤ b := by omega
  have s_B_L : b + 1 ≤ b + 213 ∨ b + 213 + 1 ≤ b := by omega
  have s_s_fp : b + 12 + 9 ≤ b + 37 ∨ b + 37 + 10 ≤ b + 12 := by omega
  have s_s_fw : b + 12 + 9 ≤ b + 37 + 10 ∨ b + 37 + 10 + 3 ≤ b + 12 := by omega
  have s_s_fe : b + 12 + 9 ≤ b + 37 + 13 ∨ b + 37 + 13 + 3 ≤ b + 12 := by omega
  have s_s_L : b + 12 + 9 ≤ b + 213 ∨ b + 213 + 1 ≤ b + 12 := by omega
  have s_p_fp : b + 21 + 10 ≤ b + 37 ∨ b + 37 + 10 ≤ b + 21 := by omega
  have s_p_fw : b + 21 + 10 ≤ b + 37 + 10 ∨ b + 37 + 10 + 3 ≤ b + 21 := by omega
  have s_p_fe : b + 21 + 10 ≤ b + 37 + 13 ∨ b + 37 + 13 + 3 ≤ b + 21 := by omega
  have s_p_L : b + 21 + 10 ≤ b + 213 ∨ b + 213 + 1 ≤ b + 21 := by omega
  have s_w_fp : b + 21 + 10 + 3 ≤ b + 37 ∨ b + 37 + 10 ≤ b + 21 + 10 := by omega
  have s_w_fw : b + 21 + 10 + 3 ≤ b + 37 + 10 ∨ b + 37 + 10 + 3 ≤ b + 21 + 10 := by omega
  have s_w_fe : b + 21 + 10 + 3 ≤ b + 37 + 13 ∨ b + 37 + 13 + 3 ≤ b + 21 + 10 := by omega
  have s_w_L : b + 21 + 10 + 3 ≤ b + 213 ∨ b + 213 + 1 ≤ b + 21 + 10 := by omega
  have s_e_fp : b + 21 + 13 + 3 ≤ b + 37 ∨ b + 37 + 10 ≤ b + 21 + 13 := by omega
  have s_e_fw : b + 21 + 13 + 3 ≤ b + 37 + 10 ∨ b + 37 + 10 + 3 ≤ b + 21 + 13 := by omega
  have s_e_fe : b + 21 + 13 + 3 ≤ b + 37 + 13 ∨ b + 37 + 13 + 3 ≤ b + 21 + 13 := by omega
  have s_e_L : b + 21 + 13 + 3 ≤ b + 213 ∨ b + 213 + 1 ≤ b + 21 + 13 := by omega
  have s_m_fp : b + 204 + 9 ≤ b + 37 ∨ b + 37 + 10 ≤ b + 204 := by omega
  have s_m_fw : b + 204 + 9 ≤ b + 37 + 10 ∨ b + 37 + 10 + 3 ≤ b + 204 := by omega
  have s_m_fe : b + 204 + 9 ≤ b + 37 + 13 ∨ b + 37 + 13 + 3 ≤ b + 204 := by omega
  have s_m_L : b + 204 + 9 ≤ b + 213 ∨ b + 213 + 1 ≤ b + 204 := by omega
  have s_B_m : b + 1 ≤ b + 204 ∨ b + 204 + 9 ≤ b := by omega
  have s_s_m : b + 12 + 9 ≤ b + 204 ∨ b + 204 + 9 ≤ b + 12 := by omega
  have s_p_m : b + 21 + 10 ≤ b + 204 ∨ b + 204 + 9 ≤ b + 21 := by omega
  have s_w_m : b + 21 + 10 + 3 ≤ b + 204 ∨ b + 204 + 9 ≤ b + 21 + 10 := by omega
  have s_e_m : b + 21 + 13 + 3 ≤ b + 204 ∨ b + 204 + 9 ≤ b + 21 + 13 := by omega
  have s_fp_m : b + 37 + 10 ≤ b + 204 ∨ b + 204 + 9 ≤ b + 37 := by omega
  have s_fw_m : b + 37 + 10 + 3 ≤ b + 204 ∨ b + 204 + 9 ≤ b + 37 + 10 := by omega
  have s_fe_m : b + 37 + 13 + 3 ≤ b + 204 ∨ b + 204 + 9 ≤ b + 37 + 13 := by omega
  have s_L_m : b + 213 + 1 ≤ b + 204 ∨ b + 204 + 9 ≤ b + 213 := by omega
  unfold F_case_43 at hF
  have fr : rx_fr [(b + 37, 10), (b + 37 + 10, 3), (b + 37 + 13, 3), (b + 204, 9), (b + 213, 1)] h h := rx_fr0
  refine rx_aload_n C dL_law_2148 1 rfl ?_
  refine rx_aload_n C dL_law_2149 0 rfl ?_
  refine rx_iload C dL_law_2150 4 rfl ?_
  refine rx_iconst C dL_law_2152 (1 : Int32) (by decide) ?_
  refine rx_iadd C dL_law_2153 ?_
  refine rx_sld C hX hbl hbA h1 dL_law_2154 ?_
  refine rx_aload_n C dL_law_2155 3 rfl ?_
  replace hF := rx_biE hF; obtain ⟨y1, e_y1, hF⟩ := hF
  refine rx_xci (rx_rSX C hN (w_L_limitAngleAfter hst e_y1 b_B b_s b_p b_w b_e b_fp b_fw b_fe b_L (by omega)) Y_L_limitAngleAfter S_L_limitAngleAfter m_L_298 ⟨⟨rfl, rfl⟩, ⟨(Nat.le_of_ble_eq_true rfl), (Nat.le_of_ble_eq_true rfl)⟩, ⟨by show _ ≤ 601024; omega, by show _ ≤ 7293034; omega⟩⟩ rfl rfl (Nat.le_of_ble_eq_true rfl) dL_law_2156) (fun E hh n1 hx => hx.elim) (fun r hh n hpp => ?_)
  obtain ⟨rfl, hn0, c_fp, c_fw, c_fe, c_L, ff⟩ := hpp
  replace b_fp : bP k (b + 37) (b + 12) y1.2.1 hh := c_fp
  clear c_fp
  replace b_fw : bQ k (b + 37 + 10) y1.2.2.1 hh := c_fw
  clear c_fw
  replace b_fe : bQ k (b + 37 + 13) y1.2.2.2.1 hh := c_fe
  clear c_fe
  replace b_L : bL k (b + 213) y1.2.2.2.2 hh := c_L
  clear c_L
  replace ff : rx_fr [(b + 37, 10), (b + 37 + 10, 3), (b + 37 + 13, 3), (b + 213, 1)] _ hh := ff
  replace b_B := b_B.keep ff ⟨s_B_fp, s_B_fw, s_B_fe, s_B_L, trivial⟩
  replace b_s := b_s.keep ff ⟨s_s_fp, s_s_fw, s_s_fe, s_s_L, trivial⟩
  replace b_p := b_p.keep ff ⟨s_p_fp, s_p_fw, s_p_fe, s_p_L, trivial⟩
  replace b_w := b_w.keep ff ⟨s_w_fp, s_w_fw, s_w_fe, s_w_L, trivial⟩
  replace b_e := b_e.keep ff ⟨s_e_fp, s_e_fw, s_e_fe, s_e_L, trivial⟩
  replace b_m := b_m.keep ff ⟨s_m_fp, s_m_fw, s_m_fe, s_m_L, trivial⟩
  replace fr := rx_frt fr ff (fun a ha => ⟨ha.1, ha.2.1, ha.2.2.1, ha.2.2.2.2.1, trivial⟩)
  refine rx_istore C dL_law_2159 (by decide) [(5, .int y1.1), (0, .ref sc), (1, .ref b), (2, .ref (b + 204)), (3, .ref (b + 213)), (4, .int x4)] rfl ?_
  refine rx_aload_n C dL_law_2161 3 rfl ?_
  refine rx_aload_n C dL_law_2162 1 rfl ?_
  refine rx_iload C dL_law_2163 5 rfl ?_
  refine rx_iconst C dL_law_2165 (1 : Int32) (by decide) ?_
  refine rx_iadd C dL_law_2166 ?_
  refine rx_sld C hX hbl hbA h1 dL_law_2167 ?_
  replace hF := rx_biE hF; obtain ⟨y2, e_y2, hF⟩ := hF
  refine rx_ci (rx_rV C (w_X9_limitAngleAfter e_y2 b_m) Y_X9_limitAngleAfter V_X9_limitAngleAfter m_L_300 (Or.inl ⟨_, _, _, _, b_m.1, rfl⟩) ⟨⟨rfl, rfl⟩, ⟨(Nat.le_of_ble_eq_true rfl), (Nat.le_of_ble_eq_true rfl)⟩, ⟨by show _ ≤ 601024; omega, by show _ ≤ 7293034; omega⟩⟩ rfl rfl (Nat.le_of_ble_eq_true rfl) dL_law_2168) (fun r hh n1 hpp => ?_)
  obtain ⟨rfl, hn, c_m, ff⟩ := hpp
  replace hn : n = n1 := Eq.symm hn
  subst hn
  replace b_m : bM k (b + 204) y2.2 hh := c_m
  clear c_m
  replace ff : rx_fr [(b + 204, 9)] _ hh := ff
  replace b_B := b_B.keep ff ⟨s_B_m, trivial⟩
  replace b_s := b_s.keep ff ⟨s_s_m, trivial⟩
  replace b_p := b_p.keep ff ⟨s_p_m, trivial⟩
  replace b_w := b_w.keep ff ⟨s_w_m, trivial⟩
  replace b_e := b_e.keep ff ⟨s_e_m, trivial⟩
  replace b_fp := b_fp.keep ff ⟨s_fp_m, trivial⟩
  replace b_fw := b_fw.keep ff ⟨s_fw_m, trivial⟩
  replace b_fe := b_fe.keep ff ⟨s_fe_m, trivial⟩
  replace b_L := b_L.keep ff ⟨s_L_m, trivial⟩
  replace fr := rx_frt fr ff (fun a ha => ⟨ha.2.2.2.1, trivial⟩)
  refine rx_istore C dL_law_2171 (by decide) [(6, .int y2.1), (5, .int y1.1), (0, .ref sc), (1, .ref b), (2, .ref (b + 204)), (3, .ref (b + 213)), (4, .int x4)] rfl ?_
  refine rx_aload_n C dL_law_2173 4 rfl ?_
  replace hF := rx_biE hF; obtain ⟨y3, e_y3, hF⟩ := hF
  refine rx_ci (rx_rV C (w_X9_thrown e_y3 b_m) Y_X9_thrown V_X9_thrown m_L_148 (Or.inl ⟨_, _, _, _, b_m.1, rfl⟩) ⟨⟨rfl, rfl⟩, ⟨(Nat.le_of_ble_eq_true rfl), (Nat.le_of_ble_eq_true rfl)⟩, ⟨by show _ ≤ 601024; omega, by show _ ≤ 7293034; omega⟩⟩ rfl rfl (Nat.le_of_ble_eq_true rfl) dL_law_2174) (fun r hh n1 hpp => ?_)
  obtain ⟨rfl, hu⟩ := hpp
  cases hu
  refine rx_iload C dL_law_2177 1 rfl ?_
  refine rx_icmp_eq C dL_law_2179 2184 (by decide) (fun c4 => ?_) (fun c4 => ?_)
  · rw [if_pos c4] at hF
    refine rx_iload C dL_law_2184 1 rfl ?_
    refine rx_if_ne C dL_law_2186 2201 (by decide) (fun c5 => ?_) (fun c5 => ?_)
    · rw [if_neg c5] at hF
      refine rx_goto C dL_law_2201 3126 (by decide) ?_
      obtain rfl := Option.some.inj hF
      refine rx_sub [2, 3, 4, 5, 6] rfl ?_
      exact rx_wide (cells + 3) (slots + 18) (by omega) (by omega) (KK _ _ (hn0) b_fp b_fw b_fe b_m b_L fr)
    · rw [if_pos c5] at hF
      refine rx_aload_n C dL_law_2189 5 rfl ?_
      refine rx_iconst C dL_law_2190 (0 : Int32) (by decide) ?_
      refine rx_ldL C dL_law_2191 b_L ?_
      refine rx_iload C dL_law_2192 0 rfl ?_
      refine rx_i2l C dL_law_2194 ?_
      refine rx_lcmp C dL_law_2195 ?_
      refine rx_if_eq C dL_law_2196 2201 (by decide) (fun c6 => ?_) (fun c6 => ?_)
      · rw [if_pos c6] at hF
        refine rx_goto C dL_law_2201 3126 (by decide) ?_
        obtain rfl := Option.some.inj hF
        refine rx_sub [2, 3, 4, 5, 6] rfl ?_
        exact rx_wide (cells + 3) (slots + 18) (by omega) (by omega) (KK _ _ (hn0) b_fp b_fw b_fe b_m b_L fr)
      · rw [if_neg c6] at hF
        refine rx_iconst C dL_law_2199 (0 : Int32) (by decide) ?_
        cases hF
  · rw [if_neg c4] at hF
    refine rx_iconst C dL_law_2182 (0 : Int32) (by decide) ?_
    cases hF
def F_case_44 (oB : ob) (os : ob) (op : ob) (ow : ob) (oe : ob) (om : ob) (oL : (Nat → Int64)) (a1 : Int32) : Option (ob × (Nat → Int64)) := (F_L_crossingObstacle oB os op ow oe oL a1).bind fun y1 => (F_X9_crossingObstacle om a1).bind fun y2 => (F_X9_thrown y2.2).bind fun y3 => if y3 = y1.1 then (if y1.1 = (0 : Int32) then (if (lg_cmp ((y1.2 0)) y2.1.toInt64) = (0 : Int32) then (some (y2.2, y1.2)) else (none)) else (some (y2.2, y1.2))) else (none)
set_option maxRecDepth 100000 in
set_option maxHeartbeats 4000000 in
theorem lc_44 {b : Nat} {oB : ob} {os : ob} {op : ob} {ow : ob} {oe : ob} {om : ob} {oL : (Nat → Int64)} {a1 : Int32} {y : ob × (Nat → Int64)} (hst : l.stackTraces = false) (hF : F_case_44 oB os op ow oe om oL a1 = some y) (C : rx_C G k P9 M9 c9 cL_law RL 9 ret9 S9 A9 me9) (hN : rx_NC S9) (hX : va_X sc len xs S9 S9.heap) (hbl : sc < S9.heap.size) (hbA : ¬ k 0 ≤ sc) (h1 : vp_in (x4 + (1 : Int32)) len ∧ xs (x4 + (1 : Int32)).toNatClampNeg = a1) (hcl : cells + 3 ≤ 601024) (hsl : slots + 18 ≤ 7293034) (b_B : bB k b oB h) (b_s : bS k (b + 12) os h) (b_p : bP k (b + 21) (b + 12) op h) (b_w : bQ k (b + 21 + 10) ow h) (b_e : bQ k (b + 21 + 13) oe h) (b_m : bM k (b + 204) om h) (b_L : bL k (b + 213) oL h) (KK : ∀ (hh : hp) (n1 : Nat), n ≤ n1 → bM k (b + 204) y.1 hh → bL k (b + 213) y.2 hh → rx_fr [(b + 204, 9), (b + 213, 1)] h hh → rx_W P9 l E9 room_1 S9 M9 A9 B9 me9 c9 Q9 G k 9 (cells + 3) (slots + 18) hh n1 3126 [(0, .ref sc), (1, .ref b), (2, .ref (b + 204)), (3, .ref (b + 213)), (4, .int x4)] []) : rx_W P9 l E9 room_1 S9 M9 A9 B9 me9 c9 Q9 G k 9 cells slots h n 2204 [(0, .ref sc), (1, .ref b), (2, .ref (b + 204)), (3, .ref (b + 213)), (4, .int x4)] [] := by
  have s_B_L : b + 1 ≤ b + 213 ∨ b + 213 + 1 ≤ b := by omega
  have s_s_L : b + 12 + 9 ≤ b + 213 ∨ b + 213 + 1 ≤ b + 12 := by omega
  have s_p_L : b + 21 + 10 ≤ b + 213 ∨ b + 213 + 1 ≤ b + 21 := by omega
  have s_w_L : b + 21 + 10 + 3 ≤ b + 213 ∨ b + 213 + 1 ≤ b + 21 + 10 := by omega
  have s_e_L : b + 21 + 13 + 3 ≤ b + 213 ∨ b + 213 + 1 ≤ b + 21 + 13 := by omega
  have s_m_L : b + 204 + 9 ≤ b + 213 ∨ b + 213 + 1 ≤ b + 204 := by omega
  have s_B_m : b + 1 ≤ b + 204 ∨ b + 204 + 9 ≤ b := by omega
  have s_s_m : b + 12 + 9 ≤ b + 204 ∨ b + 204 + 9 ≤ b + 12 := by omega
  have s_p_m : b + 21 + 10 ≤ b + 204 ∨ b + 204 + 9 ≤ b + 21 := by omega
  have s_w_m : b + 21 + 10 + 3 ≤ b + 204 ∨ b + 204 + 9 ≤ b + 21 + 10 := by omega
  have s_e_m : b + 21 + 13 + 3 ≤ b + 204 ∨ b + 204 + 9 ≤ b + 21 + 13 := by omega
  have s_L_m : b + 213 + 1 ≤ b + 204 ∨ b + 204 + 9 ≤ b + 213 := by omega
  unfold F_case_44 at hF
  have fr : rx_fr [(b + 204, 9), (b + 213, 1)] h h := rx_fr0
  refine rx_aload_n C dL_law_2204 1 rfl ?_
  refine rx_aload_n C dL_law_2205 0 rfl ?_
  refine rx_iload C dL_law_2206 4 rfl ?_
  refine rx_iconst C dL_law_2208 (1 : Int32) (by decide) ?_
  refine rx_iadd C dL_law_2209 ?_
  refine rx_sld C hX hbl hbA h1 dL_law_2210 ?_
  refine rx_aload_n C dL_law_2211 3 rfl ?_
  replace hF := rx_biE hF; obtain ⟨y1, e_y1, hF⟩ := hF
  refine rx_xci (rx_rSX C hN (w_L_crossingObstacle hst e_y1 b_B b_s b_p b_w b_e b_L (by omega)) Y_L_crossingObstacle S_L_crossingObstacle m_L_301 ⟨⟨rfl, rfl⟩, ⟨(Nat.le_of_ble_eq_true rfl), (Nat.le_of_ble_eq_true rfl)⟩, ⟨by show _ ≤ 601024; omega, by show _ ≤ 7293034; omega⟩⟩ rfl rfl (Nat.le_of_ble_eq_true rfl) dL_law_2212) (fun E hh n1 hx => hx.elim) (fun r hh n hpp => ?_)
  obtain ⟨rfl, hn0, c_L, ff⟩ := hpp
  replace b_L : bL k (b + 213) y1.2 hh := c_L
  clear c_L
  replace ff : rx_fr [(b + 213, 1)] _ hh := ff
  replace b_B := b_B.keep ff ⟨s_B_L, trivial⟩
  replace b_s := b_s.keep ff ⟨s_s_L, trivial⟩
  replace b_p := b_p.keep ff ⟨s_p_L, trivial⟩
  replace b_w := b_w.keep ff ⟨s_w_L, trivial⟩
  replace b_e := b_e.keep ff ⟨s_e_L, trivial⟩
  replace b_m := b_m.keep ff ⟨s_m_L, trivial⟩
  replace fr := rx_frt fr ff (fun a ha => ⟨ha.2.1, trivial⟩)
  refine rx_istore C dL_law_2215 (by decide) [(5, .int y1.1), (0, .ref sc), (1, .ref b), (2, .ref (b + 204)), (3, .ref (b + 213)), (4, .int x4)] rfl ?_
  refine rx_aload_n C dL_law_2217 3 rfl ?_
  refine rx_aload_n C dL_law_2218 1 rfl ?_
  refine rx_iload C dL_law_2219 5 rfl ?_
  refine rx_iconst C dL_law_2221 (1 : Int32) (by decide) ?_
  refine rx_iadd C dL_law_2222 ?_
  refine rx_sld C hX hbl hbA h1 dL_law_2223 ?_
  replace hF := rx_biE hF; obtain ⟨y2, e_y2, hF⟩ := hF
  refine rx_ci (rx_rV C (w_X9_crossingObstacle e_y2 b_m) Y_X9_crossingObstacle V_X9_crossingObstacle m_L_303 (Or.inl ⟨_, _, _, _, b_m.1, rfl⟩) ⟨⟨rfl, rfl⟩, ⟨(Nat.le_of_ble_eq_true rfl), (Nat.le_of_ble_eq_true rfl)⟩, ⟨by show _ ≤ 601024; omega, by show _ ≤ 7293034; omega⟩⟩ rfl rfl (Nat.le_of_ble_eq_true rfl) dL_law_2224) (fun r hh n1 hpp => ?_)
  obtain ⟨rfl, hn, c_m, ff⟩ := hpp
  replace hn : n = n1 := Eq.symm hn
  subst hn
  replace b_m : bM k (b + 204) y2.2 hh := c_m
  clear c_m
  replace ff : rx_fr [(b + 204, 9)] _ hh := ff
  replace b_B := b_B.keep ff ⟨s_B_m, trivial⟩
  replace b_s := b_s.keep ff ⟨s_s_m, trivial⟩
  replace b_p := b_p.keep ff ⟨s_p_m, trivial⟩
  replace b_w := b_w.keep ff ⟨s_w_m, trivial⟩
  replace b_e := b_e.keep ff ⟨s_e_m, trivial⟩
  replace b_L := b_L.keep ff ⟨s_L_m, trivial⟩
  replace fr := rx_frt fr ff (fun a ha => ⟨ha.1, trivial⟩)
  refine rx_istore C dL_law_2227 (by decide) [(6, .int y2.1), (5, .int y1.1), (0, .ref sc), (1, .ref b), (2, .ref (b + 204)), (3, .ref (b + 213)), (4, .int x4)] rfl ?_
  refine rx_aload_n C dL_law_2229 4 rfl ?_
  replace hF := rx_biE hF; obtain ⟨y3, e_y3, hF⟩ := hF
  refine rx_ci (rx_rV C (w_X9_thrown e_y3 b_m) Y_X9_thrown V_X9_thrown m_L_148 (Or.inl ⟨_, _, _, _, b_m.1, rfl⟩) ⟨⟨rfl, rfl⟩, ⟨(Nat.le_of_ble_eq_true rfl), (Nat.le_of_ble_eq_true rfl)⟩, ⟨by show _ ≤ 601024; omega, by show _ ≤ 7293034; omega⟩⟩ rfl rfl (Nat.le_of_ble_eq_true rfl) dL_law_2230) (fun r hh n1 hpp => ?_)
  obtain ⟨rfl, hu⟩ := hpp
  cases hu
  refine rx_iload C dL_law_2233 1 rfl ?_
  refine rx_icmp_eq C dL_law_2235 2240 (by decide) (fun c4 => ?_) (fun c4 => ?_)
  · rw [if_pos c4] at hF
    refine rx_iload C dL_law_2240 1 rfl ?_
    refine rx_if_ne C dL_law_2242 2257 (by decide) (fun c5 => ?_) (fun c5 => ?_)
    · rw [if_neg c5] at hF
      refine rx_goto C dL_law_2257 3126 (by decide) ?_
      obtain rfl := Option.some.inj hF
      refine rx_sub [2, 3, 4, 5, 6] rfl ?_
      exact rx_wide (cells + 3) (slots + 18) (by omega) (by omega) (KK _ _ (hn0) b_m b_L fr)
    · rw [if_pos c5] at hF
      refine rx_aload_n C dL_law_2245 5 rfl ?_
      refine rx_iconst C dL_law_2246 (0 : Int32) (by decide) ?_
      refine rx_ldL C dL_law_2247 b_L ?_
      refine rx_iload C dL_law_2248 0 rfl ?_
      refine rx_i2l C dL_law_2250 ?_
      refine rx_lcmp C dL_law_2251 ?_
      refine rx_if_eq C dL_law_2252 2257 (by decide) (fun c6 => ?_) (fun c6 => ?_)
      · rw [if_pos c6] at hF
        refine rx_goto C dL_law_2257 3126 (by decide) ?_
        obtain rfl := Option.some.inj hF
        refine rx_sub [2, 3, 4, 5, 6] rfl ?_
        exact rx_wide (cells + 3) (slots + 18) (by omega) (by omega) (KK _ _ (hn0) b_m b_L fr)
      · rw [if_neg c6] at hF
        refine rx_iconst C dL_law_2255 (0 : Int32) (by decide) ?_
        cases hF
  · rw [if_neg c4] at hF
    refine rx_iconst C dL_law_2238 (0 : Int32) (by decide) ?_
    cases hF
def F_case_45 (oB : ob) (os : ob) (op : ob) (om : ob) : Option (ob) := (F_X8_coinGap oB os op).bind fun y1 => (F_X9_coinGap om).bind fun y2 => if y1 = y2.1 then (some y2.2) else (none)
set_option maxRecDepth 100000 in
set_option maxHeartbeats 4000000 in
theorem lc_45 {b : Nat} {oB : ob} {os : ob} {op : ob} {om : ob} {y : ob} (hst : l.stackTraces = false) (hF : F_case_45 oB os op om = some y) (C : rx_C G k P9 M9 c9 cL_law RL 9 ret9 S9 A9 me9) (hN : rx_NC S9) (hX : va_X sc len xs S9 S9.heap) (hbl : sc < S9.heap.size) (hbA : ¬ k 0 ≤ sc) (hcl : cells + 3 ≤ 601024) (hsl : slots + 18 ≤ 7293034) (b_B : bB k b oB h) (b_s : bS k (b + 12) os h) (b_p : bP k (b + 21) (b + 12) op h) (b_m : bM k (b + 204) om h) (KK : ∀ (hh : hp) (n1 : Nat), n ≤ n1 → bM k (b + 204) y hh → rx_fr [(b + 204, 9)] h hh → rx_W P9 l E9 room_1 S9 M9 A9 B9 me9 c9 Q9 G k 9 (cells + 3) (slots + 18) hh n1 3126 [(0, .ref sc), (1, .ref b), (2, .ref (b + 204)), (3, .ref (b + 213)), (4, .int x4)] []) : rx_W P9 l E9 room_1 S9 M9 A9 B9 me9 c9 Q9 G k 9 cells slots h n 2260 [(0, .ref sc), (1, .ref b), (2, .ref (b + 204)), (3, .ref (b + 213)), (4, .int x4)] [] := by
  have s_B_m : b + 1 ≤ b + 204 ∨ b + 204 + 9 ≤ b := by omega
  have s_s_m : b + 12 + 9 ≤ b + 204 ∨ b + 204 + 9 ≤ b + 12 := by omega
  have s_p_m : b + 21 + 10 ≤ b + 204 ∨ b + 204 + 9 ≤ b + 21 := by omega
  unfold F_case_45 at hF
  have fr : rx_fr [(b + 204, 9)] h h := rx_fr0
  refine rx_aload_n C dL_law_2260 1 rfl ?_
  replace hF := rx_biE hF; obtain ⟨y1, e_y1, hF⟩ := hF
  refine rx_ci (rx_rV C (w_X8_coinGap e_y1 b_B b_s b_p) Y_X8_coinGap V_X8_coinGap m_L_304 (Or.inl ⟨_, _, _, _, b_B, rfl⟩) ⟨⟨rfl, rfl⟩, ⟨(Nat.le_of_ble_eq_true rfl), (Nat.le_of_ble_eq_true rfl)⟩, ⟨by show _ ≤ 601024; omega, by show _ ≤ 7293034; omega⟩⟩ rfl rfl (Nat.le_of_ble_eq_true rfl) dL_law_2261) (fun r hh n1 hpp => ?_)
  obtain ⟨rfl, hu⟩ := hpp
  cases hu
  refine rx_aload_n C dL_law_2264 2 rfl ?_
  replace hF := rx_biE hF; obtain ⟨y2, e_y2, hF⟩ := hF
  refine rx_ci (rx_rV C (w_X9_coinGap e_y2 b_m) Y_X9_coinGap V_X9_coinGap m_L_307 (Or.inl ⟨_, _, _, _, b_m.1, rfl⟩) ⟨⟨rfl, rfl⟩, ⟨(Nat.le_of_ble_eq_true rfl), (Nat.le_of_ble_eq_true rfl)⟩, ⟨by show _ ≤ 601024; omega, by show _ ≤ 7293034; omega⟩⟩ rfl rfl (Nat.le_of_ble_eq_true rfl) dL_law_2265) (fun r hh n1 hpp => ?_)
  obtain ⟨rfl, hn, c_m, ff⟩ := hpp
  replace hn : n = n1 := Eq.symm hn
  subst hn
  replace b_m : bM k (b + 204) y2.2 hh := c_m
  clear c_m
  replace ff : rx_fr [(b + 204, 9)] _ hh := ff
  replace b_B := b_B.keep ff ⟨s_B_m, trivial⟩
  replace b_s := b_s.keep ff ⟨s_s_m, trivial⟩
  replace b_p := b_p.keep ff ⟨s_p_m, trivial⟩
  replace fr := rx_frt fr ff (fun a ha => ⟨ha.1, trivial⟩)
  refine rx_icmp_eq C dL_law_2268 3126 (by decide) (fun c3 => ?_) (fun c3 => ?_)
  · rw [if_pos c3] at hF
    obtain rfl := Option.some.inj hF
    exact rx_wide (cells + 3) (slots + 18) (by omega) (by omega) (KK _ _ (Nat.le_refl _) b_m fr)
  · rw [if_neg c3] at hF
    refine rx_iconst C dL_law_2271 (0 : Int32) (by decide) ?_
    cases hF
def F_case_46 (oB : ob) (os : ob) (op : ob) (ow : ob) (oe : ob) (oH : hst) (om : ob) (oL : (Nat → Int64)) (a1 : Int32) (a2 : Int32) : Option (ob × hst × ob × (Nat → Int64)) := (F_L_dropCoins oB os op ow oe oH oL a1 a2).bind fun y1 => (F_X9_dropCoins om a1 a2).bind fun y2 => (F_X9_thrown y2.2).bind fun y3 => if y3 = y1.1 then (if y1.1 = (0 : Int32) then (if (lg_cmp ((y1.2.2.2 0)) y2.1.toInt64) = (0 : Int32) then (some (y1.2.1, y1.2.2.1, y2.2, y1.2.2.2)) else (none)) else (some (y1.2.1, y1.2.2.1, y2.2, y1.2.2.2))) else (none)
set_option maxRecDepth 100000 in
set_option maxHeartbeats 4000000 in
theorem lc_46 {b : Nat} {oB : ob} {os : ob} {op : ob} {ow : ob} {oe : ob} {oH : hst} {om : ob} {oL : (Nat → Int64)} {a1 : Int32} {a2 : Int32} {y : ob × hst × ob × (Nat → Int64)} (hst : l.stackTraces = false) (hF : F_case_46 oB os op ow oe oH om oL a1 a2 = some y) (C : rx_C G k P9 M9 c9 cL_law RL 9 ret9 S9 A9 me9) (hN : rx_NC S9) (hX : va_X sc len xs S9 S9.heap) (hbl : sc < S9.heap.size) (hbA : ¬ k 0 ≤ sc) (h1 : vp_in (x4 + (1 : Int32)) len ∧ xs (x4 + (1 : Int32)).toNatClampNeg = a1) (h2 : vp_in (x4 + (2 : Int32)) len ∧ xs (x4 + (2 : Int32)).toNatClampNeg = a2) (hcl : cells + 3 ≤ 601024) (hsl : slots + 18 ≤ 7293034) (b_B : bB k b oB h) (b_s : bS k (b + 12) os h) (b_p : bP k (b + 21) (b + 12) op h) (b_w : bQ k (b + 21 + 10) ow h) (b_e : bQ k (b + 21 + 13) oe h) (b_H : bHH k (b + 69) (b + 12) oH h) (b_m : bM k (b + 204) om h) (b_L : bL k (b + 213) oL h) (KK : ∀ (hh : hp) (n1 : Nat), n ≤ n1 → bP k (b + 21) (b + 12) y.1 hh → bHH k (b + 69) (b + 12) y.2.1 hh → bM k (b + 204) y.2.2.1 hh → bL k (b + 213) y.2.2.2 hh → rx_fr [(b + 21, 10), (b + 69, 130), (b + 204, 9), (b + 213, 1)] h hh → rx_W P9 l E9 room_1 S9 M9 A9 B9 me9 c9 Q9 G k 9 (cells + 3) (slots + 18) hh n1 3126 [(0, .ref sc), (1, .ref b), (2, .ref (b + 204)), (3, .ref (b + 213)), (4, .int x4)] []) : rx_W P9 l E9 room_1 S9 M9 A9 B9 me9 c9 Q9 G k 9 cells slots h n 2273 [(0, .ref sc), (1, .ref b), (2, .ref (b + 204)), (3, .ref (b + 213)), (4, .int x4)] [] := by
  have s_B_p : b + 1 ≤ b + 21 ∨ b + 21 + 10 ≤ b := by omega
  have s_B_H : b + 1 ≤ b + 69 ∨ b + 69 + 130 ≤ b := by omega
  have s_B_L : b + 1 ≤ b + 213 ∨ b + 213 + 1 ≤ b := by omega
  have s_s_p : b + 12 + 9 ≤ b + 21 ∨ b + 21 + 10 ≤ b + 12 := by omega
  have s_s_H : b + 12 + 9 ≤ b + 69 ∨ b + 69 + 130 ≤ b + 12 := by omega
  have s_s_L : b + 12 + 9 ≤ b + 213 ∨ b + 213 + 1 ≤ b + 12 := by omega
  have s_w_p : b + 21 + 10 + 3 ≤ b + 21 ∨ b + 21 + 10 ≤ b + 21 + 10 := by omega
  have s_w_H : b + 21 + 10 + 3 ≤ b + 69 ∨ b + 69 + 130 ≤ b + 21 + 10 := by omega
  have s_w_L : b + 21 + 10 + 3 ≤ b + 213 ∨ b + 213 + 1 ≤ b + 21 + 10 := by omega
  have s_e_p : b + 21 + 13 + 3 ≤ b + 21 ∨ b + 21 + 10 ≤ b + 21 + 13 := by omega
  have s_e_H : b + 21 + 13 + 3 ≤ b + 69 ∨ b + 69 + 130 ≤ b + 21 + 13 := by omega
  have s_e_L : b + 21 + 13 + 3 ≤ b + 213 ∨ b + 213 + 1 ≤ b + 21 + 13 := by omega
  have s_m_p : b + 204 + 9 ≤ b + 21 ∨ b + 21 + 10 ≤ b + 204 := by omega
  have s_m_H : b + 204 + 9 ≤ b + 69 ∨ b + 69 + 130 ≤ b + 204 := by omega
  have s_m_L : b + 204 + 9 ≤ b + 213 ∨ b + 213 + 1 ≤ b + 204 := by omega
  have s_B_m : b + 1 ≤ b + 204 ∨ b + 204 + 9 ≤ b := by omega
  have s_s_m : b + 12 + 9 ≤ b + 204 ∨ b + 204 + 9 ≤ b + 12 := by omega
  have s_p_m : b + 21 + 10 ≤ b + 204 ∨ b + 204 + 9 ≤ b + 21 := by omega
  have s_w_m : b + 21 + 10 + 3 ≤ b + 204 ∨ b + 204 + 9 ≤ b + 21 + 10 := by omega
  have s_e_m : b + 21 + 13 + 3 ≤ b + 204 ∨ b + 204 + 9 ≤ b + 21 + 13 := by omega
  have s_H_m : b + 69 + 130 ≤ b + 204 ∨ b + 204 + 9 ≤ b + 69 := by omega
  have s_L_m : b + 213 + 1 ≤ b + 204 ∨ b + 204 + 9 ≤ b + 213 := by omega
  unfold F_case_46 at hF
  have fr : rx_fr [(b + 21, 10), (b + 69, 130), (b + 204, 9), (b + 213, 1)] h h := rx_fr0
  refine rx_aload_n C dL_law_2273 1 rfl ?_
  refine rx_aload_n C dL_law_2274 0 rfl ?_
  refine rx_iload C dL_law_2275 4 rfl ?_
  refine rx_iconst C dL_law_2277 (1 : Int32) (by decide) ?_
  refine rx_iadd C dL_law_2278 ?_
  refine rx_sld C hX hbl hbA h1 dL_law_2279 ?_
  refine rx_aload_n C dL_law_2280 0 rfl ?_
  refine rx_iload C dL_law_2281 4 rfl ?_
  refine rx_iconst C dL_law_2283 (2 : Int32) (by decide) ?_
  refine rx_iadd C dL_law_2284 ?_
  refine rx_sld C hX hbl hbA h2 dL_law_2285 ?_
  refine rx_aload_n C dL_law_2286 3 rfl ?_
  replace hF := rx_biE hF; obtain ⟨y1, e_y1, hF⟩ := hF
  refine rx_xci (rx_rSX C hN (w_L_dropCoins hst e_y1 b_B b_s b_p b_w b_e b_H b_L (by omega)) Y_L_dropCoins S_L_dropCoins m_L_308 ⟨⟨rfl, rfl⟩, ⟨(Nat.le_of_ble_eq_true rfl), (Nat.le_of_ble_eq_true rfl)⟩, ⟨by show _ ≤ 601024; omega, by show _ ≤ 7293034; omega⟩⟩ rfl rfl (Nat.le_of_ble_eq_true rfl) dL_law_2287) (fun E hh n1 hx => hx.elim) (fun r hh n hpp => ?_)
  obtain ⟨rfl, hn0, c_p, c_H, c_L, ff⟩ := hpp
  replace b_p : bP k (b + 21) (b + 12) y1.2.1 hh := c_p
  clear c_p
  replace b_H : bHH k (b + 69) (b + 12) y1.2.2.1 hh := c_H
  clear c_H
  replace b_L : bL k (b + 213) y1.2.2.2 hh := c_L
  clear c_L
  replace ff : rx_fr [(b + 21, 10), (b + 69, 130), (b + 213, 1)] _ hh := ff
  replace b_B := b_B.keep ff ⟨s_B_p, s_B_H, s_B_L, trivial⟩
  replace b_s := b_s.keep ff ⟨s_s_p, s_s_H, s_s_L, trivial⟩
  replace b_w := b_w.keep ff ⟨s_w_p, s_w_H, s_w_L, trivial⟩
  replace b_e := b_e.keep ff ⟨s_e_p, s_e_H, s_e_L, trivial⟩
  replace b_m := b_m.keep ff ⟨s_m_p, s_m_H, s_m_L, trivial⟩
  replace fr := rx_frt fr ff (fun a ha => ⟨ha.1, ha.2.1, ha.2.2.2.1, trivial⟩)
  refine rx_istore C dL_law_2290 (by decide) [(5, .int y1.1), (0, .ref sc), (1, .ref b), (2, .ref (b + 204)), (3, .ref (b + 213)), (4, .int x4)] rfl ?_
  refine rx_aload_n C dL_law_2292 3 rfl ?_
  refine rx_aload_n C dL_law_2293 1 rfl ?_
  refine rx_iload C dL_law_2294 5 rfl ?_
  refine rx_iconst C dL_law_2296 (1 : Int32) (by decide) ?_
  refine rx_iadd C dL_law_2297 ?_
  refine rx_sld C hX hbl hbA h1 dL_law_2298 ?_
  refine rx_aload_n C dL_law_2299 1 rfl ?_
  refine rx_iload C dL_law_2300 5 rfl ?_
  refine rx_iconst C dL_law_2302 (2 : Int32) (by decide) ?_
  refine rx_iadd C dL_law_2303 ?_
  refine rx_sld C hX hbl hbA h2 dL_law_2304 ?_
  replace hF := rx_biE hF; obtain ⟨y2, e_y2, hF⟩ := hF
  refine rx_ci (rx_rV C (w_X9_dropCoins e_y2 b_m) Y_X9_dropCoins V_X9_dropCoins m_L_310 (Or.inl ⟨_, _, _, _, b_m.1, rfl⟩) ⟨⟨rfl, rfl⟩, ⟨(Nat.le_of_ble_eq_true rfl), (Nat.le_of_ble_eq_true rfl)⟩, ⟨by show _ ≤ 601024; omega, by show _ ≤ 7293034; omega⟩⟩ rfl rfl (Nat.le_of_ble_eq_true rfl) dL_law_2305) (fun r hh n1 hpp => ?_)
  obtain ⟨rfl, hn, c_m, ff⟩ := hpp
  replace hn : n = n1 := Eq.symm hn
  subst hn
  replace b_m : bM k (b + 204) y2.2 hh := c_m
  clear c_m
  replace ff : rx_fr [(b + 204, 9)] _ hh := ff
  replace b_B := b_B.keep ff ⟨s_B_m, trivial⟩
  replace b_s := b_s.keep ff ⟨s_s_m, trivial⟩
  replace b_p := b_p.keep ff ⟨s_p_m, trivial⟩
  replace b_w := b_w.keep ff ⟨s_w_m, trivial⟩
  replace b_e := b_e.keep ff ⟨s_e_m, trivial⟩
  replace b_H := b_H.keep ff ⟨s_H_m, trivial⟩
  replace b_L := b_L.keep ff ⟨s_L_m, trivial⟩
  replace fr := rx_frt fr ff (fun a ha => ⟨ha.2.2.1, trivial⟩)
  refine rx_istore C dL_law_2308 (by decide) [(6, .int y2.1), (5, .int y1.1), (0, .ref sc), (1, .ref b), (2, .ref (b + 204)), (3, .ref (b + 213)), (4, .int x4)] rfl ?_
  refine rx_aload_n C dL_law_2310 4 rfl ?_
  replace hF := rx_biE hF; obtain ⟨y3, e_y3, hF⟩ := hF
  refine rx_ci (rx_rV C (w_X9_thrown e_y3 b_m) Y_X9_thrown V_X9_thrown m_L_148 (Or.inl ⟨_, _, _, _, b_m.1, rfl⟩) ⟨⟨rfl, rfl⟩, ⟨(Nat.le_of_ble_eq_true rfl), (Nat.le_of_ble_eq_true rfl)⟩, ⟨by show _ ≤ 601024; omega, by show _ ≤ 7293034; omega⟩⟩ rfl rfl (Nat.le_of_ble_eq_true rfl) dL_law_2311) (fun r hh n1 hpp => ?_)
  obtain ⟨rfl, hu⟩ := hpp
  cases hu
  refine rx_iload C dL_law_2314 1 rfl ?_
  refine rx_icmp_eq C dL_law_2316 2321 (by decide) (fun c4 => ?_) (fun c4 => ?_)
  · rw [if_pos c4] at hF
    refine rx_iload C dL_law_2321 1 rfl ?_
    refine rx_if_ne C dL_law_2323 2338 (by decide) (fun c5 => ?_) (fun c5 => ?_)
    · rw [if_neg c5] at hF
      refine rx_goto C dL_law_2338 3126 (by decide) ?_
      obtain rfl := Option.some.inj hF
      refine rx_sub [2, 3, 4, 5, 6] rfl ?_
      exact rx_wide (cells + 3) (slots + 18) (by omega) (by omega) (KK _ _ (hn0) b_p b_H b_m b_L fr)
    · rw [if_pos c5] at hF
      refine rx_aload_n C dL_law_2326 5 rfl ?_
      refine rx_iconst C dL_law_2327 (0 : Int32) (by decide) ?_
      refine rx_ldL C dL_law_2328 b_L ?_
      refine rx_iload C dL_law_2329 0 rfl ?_
      refine rx_i2l C dL_law_2331 ?_
      refine rx_lcmp C dL_law_2332 ?_
      refine rx_if_eq C dL_law_2333 2338 (by decide) (fun c6 => ?_) (fun c6 => ?_)
      · rw [if_pos c6] at hF
        refine rx_goto C dL_law_2338 3126 (by decide) ?_
        obtain rfl := Option.some.inj hF
        refine rx_sub [2, 3, 4, 5, 6] rfl ?_
        exact rx_wide (cells + 3) (slots + 18) (by omega) (by omega) (KK _ _ (hn0) b_p b_H b_m b_L fr)
      · rw [if_neg c6] at hF
        refine rx_iconst C dL_law_2336 (0 : Int32) (by decide) ?_
        cases hF
  · rw [if_neg c4] at hF
    refine rx_iconst C dL_law_2319 (0 : Int32) (by decide) ?_
    cases hF
def F_case_47 (oB : ob) (os : ob) (op : ob) (ow : ob) (oe : ob) (oH : hst) (om : ob) (oL : (Nat → Int64)) (a1 : Int32) (a2 : Int32) : Option (ob × hst × ob × (Nat → Int64)) := (F_L_pickCoins oB os op ow oe oH oL a1 a2).bind fun y1 => (F_X9_pickCoins om a1 a2).bind fun y2 => (F_X9_thrown y2.2).bind fun y3 => if y3 = y1.1 then (if y1.1 = (0 : Int32) then (if (lg_cmp ((y1.2.2.2 0)) y2.1.toInt64) = (0 : Int32) then (some (y1.2.1, y1.2.2.1, y2.2, y1.2.2.2)) else (none)) else (some (y1.2.1, y1.2.2.1, y2.2, y1.2.2.2))) else (none)
set_option maxRecDepth 100000 in
set_option maxHeartbeats 4000000 in
theorem lc_47 {b : Nat} {oB : ob} {os : ob} {op : ob} {ow : ob} {oe : ob} {oH : hst} {om : ob} {oL : (Nat → Int64)} {a1 : Int32} {a2 : Int32} {y : ob × hst × ob × (Nat → Int64)} (hst : l.stackTraces = false) (hF : F_case_47 oB os op ow oe oH om oL a1 a2 = some y) (C : rx_C G k P9 M9 c9 cL_law RL 9 ret9 S9 A9 me9) (hN : rx_NC S9) (hX : va_X sc len xs S9 S9.heap) (hbl : sc < S9.heap.size) (hbA : ¬ k 0 ≤ sc) (h1 : vp_in (x4 + (1 : Int32)) len ∧ xs (x4 + (1 : Int32)).toNatClampNeg = a1) (h2 : vp_in (x4 + (2 : Int32)) len ∧ xs (x4 + (2 : Int32)).toNatClampNeg = a2) (hcl : cells + 3 ≤ 601024) (hsl : slots + 18 ≤ 7293034) (b_B : bB k b oB h) (b_s : bS k (b + 12) os h) (b_p : bP k (b + 21) (b + 12) op h) (b_w : bQ k (b + 21 + 10) ow h) (b_e : bQ k (b + 21 + 13) oe h) (b_H : bHH k (b + 69) (b + 12) oH h) (b_m : bM k (b + 204) om h) (b_L : bL k (b + 213) oL h) (KK : ∀ (hh : hp) (n1 : Nat), n ≤ n1 → bP k (b + 21) (b + 12) y.1 hh → bHH k (b + 69) (b + 12) y.2.1 hh → bM k (b + 204) y.2.2.1 hh → bL k (b + 213) y.2.2.2 hh → rx_fr [(b + 21, 10), (b + 69, 130), (b + 204, 9), (b + 213, 1)] h hh → rx_W P9 l E9 room_1 S9 M9 A9 B9 me9 c9 Q9 G k 9 (cells + 3) (slots + 18) hh n1 3126 [(0, .ref sc), (1, .ref b), (2, .ref (b + 204)), (3, .ref (b + 213)), (4, .int x4)] []) : rx_W P9 l E9 room_1 S9 M9 A9 B9 me9 c9 Q9 G k 9 cells slots h n 2341 [(0, .ref sc), (1, .ref b), (2, .ref (b + 204)), (3, .ref (b + 213)), (4, .int x4)] [] := by
  have s_B_p : b + 1 ≤ b + 21 ∨ b + 21 + 10 ≤ b := by omega
  have s_B_H : b + 1 ≤ b + 69 ∨ b + 69 + 130 ≤ b := by omega
  have s_B_L : b + 1 ≤ b + 213 ∨ b + 213 + 1 ≤ b := by omega
  have s_s_p : b + 12 + 9 ≤ b + 21 ∨ b + 21 + 10 ≤ b + 12 := by omega
  have s_s_H : b + 12 + 9 ≤ b + 69 ∨ b + 69 + 130 ≤ b + 12 := by omega
  have s_s_L : b + 12 + 9 ≤ b + 213 ∨ b + 213 + 1 ≤ b + 12 := by omega
  have s_w_p : b + 21 + 10 + 3 ≤ b + 21 ∨ b + 21 + 10 ≤ b + 21 + 10 := by omega
  have s_w_H : b + 21 + 10 + 3 ≤ b + 69 ∨ b + 69 + 130 ≤ b + 21 + 10 := by omega
  have s_w_L : b + 21 + 10 + 3 ≤ b + 213 ∨ b + 213 + 1 ≤ b + 21 + 10 := by omega
  have s_e_p : b + 21 + 13 + 3 ≤ b + 21 ∨ b + 21 + 10 ≤ b + 21 + 13 := by omega
  have s_e_H : b + 21 + 13 + 3 ≤ b + 69 ∨ b + 69 + 130 ≤ b + 21 + 13 := by omega
  have s_e_L : b + 21 + 13 + 3 ≤ b + 213 ∨ b + 213 + 1 ≤ b + 21 + 13 := by omega
  have s_m_p : b + 204 + 9 ≤ b + 21 ∨ b + 21 + 10 ≤ b + 204 := by omega
  have s_m_H : b + 204 + 9 ≤ b + 69 ∨ b + 69 + 130 ≤ b + 204 := by omega
  have s_m_L : b + 204 + 9 ≤ b + 213 ∨ b + 213 + 1 ≤ b + 204 := by omega
  have s_B_m : b + 1 ≤ b + 204 ∨ b + 204 + 9 ≤ b := by omega
  have s_s_m : b + 12 + 9 ≤ b + 204 ∨ b + 204 + 9 ≤ b + 12 := by omega
  have s_p_m : b + 21 + 10 ≤ b + 204 ∨ b + 204 + 9 ≤ b + 21 := by omega
  have s_w_m : b + 21 + 10 + 3 ≤ b + 204 ∨ b + 204 + 9 ≤ b + 21 + 10 := by omega
  have s_e_m : b + 21 + 13 + 3 ≤ b + 204 ∨ b + 204 + 9 ≤ b + 21 + 13 := by omega
  have s_H_m : b + 69 + 130 ≤ b + 204 ∨ b + 204 + 9 ≤ b + 69 := by omega
  have s_L_m : b + 213 + 1 ≤ b + 204 ∨ b + 204 + 9 ≤ b + 213 := by omega
  unfold F_case_47 at hF
  have fr : rx_fr [(b + 21, 10), (b + 69, 130), (b + 204, 9), (b + 213, 1)] h h := rx_fr0
  refine rx_aload_n C dL_law_2341 1 rfl ?_
  refine rx_aload_n C dL_law_2342 0 rfl ?_
  refine rx_iload C dL_law_2343 4 rfl ?_
  refine rx_iconst C dL_law_2345 (1 : Int32) (by decide) ?_
  refine rx_iadd C dL_law_2346 ?_
  refine rx_sld C hX hbl hbA h1 dL_law_2347 ?_
  refine rx_aload_n C dL_law_2348 0 rfl ?_
  refine rx_iload C dL_law_2349 4 rfl ?_
  refine rx_iconst C dL_law_2351 (2 : Int32) (by decide) ?_
  refine rx_iadd C dL_law_2352 ?_
  refine rx_sld C hX hbl hbA h2 dL_law_2353 ?_
  refine rx_aload_n C dL_law_2354 3 rfl ?_
  replace hF := rx_biE hF; obtain ⟨y1, e_y1, hF⟩ := hF
  refine rx_xci (rx_rSX C hN (w_L_pickCoins hst e_y1 b_B b_s b_p b_w b_e b_H b_L (by omega)) Y_L_pickCoins S_L_pickCoins m_L_311 ⟨⟨rfl, rfl⟩, ⟨(Nat.le_of_ble_eq_true rfl), (Nat.le_of_ble_eq_true rfl)⟩, ⟨by show _ ≤ 601024; omega, by show _ ≤ 7293034; omega⟩⟩ rfl rfl (Nat.le_of_ble_eq_true rfl) dL_law_2355) (fun E hh n1 hx => hx.elim) (fun r hh n hpp => ?_)
  obtain ⟨rfl, hn0, c_p, c_H, c_L, ff⟩ := hpp
  replace b_p : bP k (b + 21) (b + 12) y1.2.1 hh := c_p
  clear c_p
  replace b_H : bHH k (b + 69) (b + 12) y1.2.2.1 hh := c_H
  clear c_H
  replace b_L : bL k (b + 213) y1.2.2.2 hh := c_L
  clear c_L
  replace ff : rx_fr [(b + 21, 10), (b + 69, 130), (b + 213, 1)] _ hh := ff
  replace b_B := b_B.keep ff ⟨s_B_p, s_B_H, s_B_L, trivial⟩
  replace b_s := b_s.keep ff ⟨s_s_p, s_s_H, s_s_L, trivial⟩
  replace b_w := b_w.keep ff ⟨s_w_p, s_w_H, s_w_L, trivial⟩
  replace b_e := b_e.keep ff ⟨s_e_p, s_e_H, s_e_L, trivial⟩
  replace b_m := b_m.keep ff ⟨s_m_p, s_m_H, s_m_L, trivial⟩
  replace fr := rx_frt fr ff (fun a ha => ⟨ha.1, ha.2.1, ha.2.2.2.1, trivial⟩)
  refine rx_istore C dL_law_2358 (by decide) [(5, .int y1.1), (0, .ref sc), (1, .ref b), (2, .ref (b + 204)), (3, .ref (b + 213)), (4, .int x4)] rfl ?_
  refine rx_aload_n C dL_law_2360 3 rfl ?_
  refine rx_aload_n C dL_law_2361 1 rfl ?_
  refine rx_iload C dL_law_2362 5 rfl ?_
  refine rx_iconst C dL_law_2364 (1 : Int32) (by decide) ?_
  refine rx_iadd C dL_law_2365 ?_
  refine rx_sld C hX hbl hbA h1 dL_law_2366 ?_
  refine rx_aload_n C dL_law_2367 1 rfl ?_
  refine rx_iload C dL_law_2368 5 rfl ?_
  refine rx_iconst C dL_law_2370 (2 : Int32) (by decide) ?_
  refine rx_iadd C dL_law_2371 ?_
  refine rx_sld C hX hbl hbA h2 dL_law_2372 ?_
  replace hF := rx_biE hF; obtain ⟨y2, e_y2, hF⟩ := hF
  refine rx_ci (rx_rV C (w_X9_pickCoins e_y2 b_m) Y_X9_pickCoins V_X9_pickCoins m_L_313 (Or.inl ⟨_, _, _, _, b_m.1, rfl⟩) ⟨⟨rfl, rfl⟩, ⟨(Nat.le_of_ble_eq_true rfl), (Nat.le_of_ble_eq_true rfl)⟩, ⟨by show _ ≤ 601024; omega, by show _ ≤ 7293034; omega⟩⟩ rfl rfl (Nat.le_of_ble_eq_true rfl) dL_law_2373) (fun r hh n1 hpp => ?_)
  obtain ⟨rfl, hn, c_m, ff⟩ := hpp
  replace hn : n = n1 := Eq.symm hn
  subst hn
  replace b_m : bM k (b + 204) y2.2 hh := c_m
  clear c_m
  replace ff : rx_fr [(b + 204, 9)] _ hh := ff
  replace b_B := b_B.keep ff ⟨s_B_m, trivial⟩
  replace b_s := b_s.keep ff ⟨s_s_m, trivial⟩
  replace b_p := b_p.keep ff ⟨s_p_m, trivial⟩
  replace b_w := b_w.keep ff ⟨s_w_m, trivial⟩
  replace b_e := b_e.keep ff ⟨s_e_m, trivial⟩
  replace b_H := b_H.keep ff ⟨s_H_m, trivial⟩
  replace b_L := b_L.keep ff ⟨s_L_m, trivial⟩
  replace fr := rx_frt fr ff (fun a ha => ⟨ha.2.2.1, trivial⟩)
  refine rx_istore C dL_law_2376 (by decide) [(6, .int y2.1), (5, .int y1.1), (0, .ref sc), (1, .ref b), (2, .ref (b + 204)), (3, .ref (b + 213)), (4, .int x4)] rfl ?_
  refine rx_aload_n C dL_law_2378 4 rfl ?_
  replace hF := rx_biE hF; obtain ⟨y3, e_y3, hF⟩ := hF
  refine rx_ci (rx_rV C (w_X9_thrown e_y3 b_m) Y_X9_thrown V_X9_thrown m_L_148 (Or.inl ⟨_, _, _, _, b_m.1, rfl⟩) ⟨⟨rfl, rfl⟩, ⟨(Nat.le_of_ble_eq_true rfl), (Nat.le_of_ble_eq_true rfl)⟩, ⟨by show _ ≤ 601024; omega, by show _ ≤ 7293034; omega⟩⟩ rfl rfl (Nat.le_of_ble_eq_true rfl) dL_law_2379) (fun r hh n1 hpp => ?_)
  obtain ⟨rfl, hu⟩ := hpp
  cases hu
  refine rx_iload C dL_law_2382 1 rfl ?_
  refine rx_icmp_eq C dL_law_2384 2389 (by decide) (fun c4 => ?_) (fun c4 => ?_)
  · rw [if_pos c4] at hF
    refine rx_iload C dL_law_2389 1 rfl ?_
    refine rx_if_ne C dL_law_2391 2406 (by decide) (fun c5 => ?_) (fun c5 => ?_)
    · rw [if_neg c5] at hF
      refine rx_goto C dL_law_2406 3126 (by decide) ?_
      obtain rfl := Option.some.inj hF
      refine rx_sub [2, 3, 4, 5, 6] rfl ?_
      exact rx_wide (cells + 3) (slots + 18) (by omega) (by omega) (KK _ _ (hn0) b_p b_H b_m b_L fr)
    · rw [if_pos c5] at hF
      refine rx_aload_n C dL_law_2394 5 rfl ?_
      refine rx_iconst C dL_law_2395 (0 : Int32) (by decide) ?_
      refine rx_ldL C dL_law_2396 b_L ?_
      refine rx_iload C dL_law_2397 0 rfl ?_
      refine rx_i2l C dL_law_2399 ?_
      refine rx_lcmp C dL_law_2400 ?_
      refine rx_if_eq C dL_law_2401 2406 (by decide) (fun c6 => ?_) (fun c6 => ?_)
      · rw [if_pos c6] at hF
        refine rx_goto C dL_law_2406 3126 (by decide) ?_
        obtain rfl := Option.some.inj hF
        refine rx_sub [2, 3, 4, 5, 6] rfl ?_
        exact rx_wide (cells + 3) (slots + 18) (by omega) (by omega) (KK _ _ (hn0) b_p b_H b_m b_L fr)
      · rw [if_neg c6] at hF
        refine rx_iconst C dL_law_2404 (0 : Int32) (by decide) ?_
        cases hF
  · rw [if_neg c4] at hF
    refine rx_iconst C dL_law_2387 (0 : Int32) (by decide) ?_
    cases hF
def F_case_48 (oB : ob) (os : ob) (op : ob) (ow : ob) (oe : ob) (oH : hst) (om : ob) (oL : (Nat → Int64)) (a1 : Int32) (a2 : Int32) : Option (ob × hst × ob × (Nat → Int64)) := (F_L_layRoyalCoin oB os op ow oe oH oL a1 a2).bind fun y1 => (F_X9_layRoyalCoin om a1 a2).bind fun y2 => (F_X9_thrown y2.2).bind fun y3 => if y3 = y1.1 then (if y1.1 = (0 : Int32) then (if (lg_cmp ((y1.2.2.2 0)) y2.1.toInt64) = (0 : Int32) then (some (y1.2.1, y1.2.2.1, y2.2, y1.2.2.2)) else (none)) else (some (y1.2.1, y1.2.2.1, y2.2, y1.2.2.2))) else (none)
set_option maxRecDepth 100000 in
set_option maxHeartbeats 4000000 in
theorem lc_48 {b : Nat} {oB : ob} {os : ob} {op : ob} {ow : ob} {oe : ob} {oH : hst} {om : ob} {oL : (Nat → Int64)} {a1 : Int32} {a2 : Int32} {y : ob × hst × ob × (Nat → Int64)} (hst : l.stackTraces = false) (hF : F_case_48 oB os op ow oe oH om oL a1 a2 = some y) (C : rx_C G k P9 M9 c9 cL_law RL 9 ret9 S9 A9 me9) (hN : rx_NC S9) (hX : va_X sc len xs S9 S9.heap) (hbl : sc < S9.heap.size) (hbA : ¬ k 0 ≤ sc) (h1 : vp_in (x4 + (1 : Int32)) len ∧ xs (x4 + (1 : Int32)).toNatClampNeg = a1) (h2 : vp_in (x4 + (2 : Int32)) len ∧ xs (x4 + (2 : Int32)).toNatClampNeg = a2) (hcl : cells + 3 ≤ 601024) (hsl : slots + 18 ≤ 7293034) (b_B : bB k b oB h) (b_s : bS k (b + 12) os h) (b_p : bP k (b + 21) (b + 12) op h) (b_w : bQ k (b + 21 + 10) ow h) (b_e : bQ k (b + 21 + 13) oe h) (b_H : bHH k (b + 69) (b + 12) oH h) (b_m : bM k (b + 204) om h) (b_L : bL k (b + 213) oL h) (KK : ∀ (hh : hp) (n1 : Nat), n ≤ n1 → bP k (b + 21) (b + 12) y.1 hh → bHH k (b + 69) (b + 12) y.2.1 hh → bM k (b + 204) y.2.2.1 hh → bL k (b + 213) y.2.2.2 hh → rx_fr [(b + 21, 10), (b + 69, 130), (b + 204, 9), (b + 213, 1)] h hh → rx_W P9 l E9 room_1 S9 M9 A9 B9 me9 c9 Q9 G k 9 (cells + 3) (slots + 18) hh n1 3126 [(0, .ref sc), (1, .ref b), (2, .ref (b + 204)), (3, .ref (b + 213)), (4, .int x4)] []) : rx_W P9 l E9 room_1 S9 M9 A9 B9 me9 c9 Q9 G k 9 cells slots h n 2409 [(0, .ref sc), (1, .ref b), (2, .ref (b + 204)), (3, .ref (b + 213)), (4, .int x4)] [] := by
  have s_B_p : b + 1 ≤ b + 21 ∨ b + 21 + 10 ≤ b := by omega
  have s_B_H : b + 1 ≤ b + 69 ∨ b + 69 + 130 ≤ b := by omega
  have s_B_L : b + 1 ≤ b + 213 ∨ b + 213 + 1 ≤ b := by omega
  have s_s_p : b + 12 + 9 ≤ b + 21 ∨ b + 21 + 10 ≤ b + 12 := by omega
  have s_s_H : b + 12 + 9 ≤ b + 69 ∨ b + 69 + 130 ≤ b + 12 := by omega
  have s_s_L : b + 12 + 9 ≤ b + 213 ∨ b + 213 + 1 ≤ b + 12 := by omega
  have s_w_p : b + 21 + 10 + 3 ≤ b + 21 ∨ b + 21 + 10 ≤ b + 21 + 10 := by omega
  have s_w_H : b + 21 + 10 + 3 ≤ b + 69 ∨ b + 69 + 130 ≤ b + 21 + 10 := by omega
  have s_w_L : b + 21 + 10 + 3 ≤ b + 213 ∨ b + 213 + 1 ≤ b + 21 + 10 := by omega
  have s_e_p : b + 21 + 13 + 3 ≤ b + 21 ∨ b + 21 + 10 ≤ b + 21 + 13 := by omega
  have s_e_H : b + 21 + 13 + 3 ≤ b + 69 ∨ b + 69 + 130 ≤ b + 21 + 13 := by omega
  have s_e_L : b + 21 + 13 + 3 ≤ b + 213 ∨ b + 213 + 1 ≤ b + 21 + 13 := by omega
  have s_m_p : b + 204 + 9 ≤ b + 21 ∨ b + 21 + 10 ≤ b + 204 := by omega
  have s_m_H : b + 204 + 9 ≤ b + 69 ∨ b + 69 + 130 ≤ b + 204 := by omega
  have s_m_L : b + 204 + 9 ≤ b + 213 ∨ b + 213 + 1 ≤ b + 204 := by omega
  have s_B_m : b + 1 ≤ b + 204 ∨ b + 204 + 9 ≤ b := by omega
  have s_s_m : b + 12 + 9 ≤ b + 204 ∨ b + 204 + 9 ≤ b + 12 := by omega
  have s_p_m : b + 21 + 10 ≤ b + 204 ∨ b + 204 + 9 ≤ b + 21 := by omega
  have s_w_m : b + 21 + 10 + 3 ≤ b + 204 ∨ b + 204 + 9 ≤ b + 21 + 10 := by omega
  have s_e_m : b + 21 + 13 + 3 ≤ b + 204 ∨ b + 204 + 9 ≤ b + 21 + 13 := by omega
  have s_H_m : b + 69 + 130 ≤ b + 204 ∨ b + 204 + 9 ≤ b + 69 := by omega
  have s_L_m : b + 213 + 1 ≤ b + 204 ∨ b + 204 + 9 ≤ b + 213 := by omega
  unfold F_case_48 at hF
  have fr : rx_fr [(b + 21, 10), (b + 69, 130), (b + 204, 9), (b + 213, 1)] h h := rx_fr0
  refine rx_aload_n C dL_law_2409 1 rfl ?_
  refine rx_aload_n C dL_law_2410 0 rfl ?_
  refine rx_iload C dL_law_2411 4 rfl ?_
  refine rx_iconst C dL_law_2413 (1 : Int32) (by decide) ?_
  refine rx_iadd C dL_law_2414 ?_
  refine rx_sld C hX hbl hbA h1 dL_law_2415 ?_
  refine rx_aload_n C dL_law_2416 0 rfl ?_
  refine rx_iload C dL_law_2417 4 rfl ?_
  refine rx_iconst C dL_law_2419 (2 : Int32) (by decide) ?_
  refine rx_iadd C dL_law_2420 ?_
  refine rx_sld C hX hbl hbA h2 dL_law_2421 ?_
  refine rx_aload_n C dL_law_2422 3 rfl ?_
  replace hF := rx_biE hF; obtain ⟨y1, e_y1, hF⟩ := hF
  refine rx_xci (rx_rSX C hN (w_L_layRoyalCoin hst e_y1 b_B b_s b_p b_w b_e b_H b_L (by omega)) Y_L_layRoyalCoin S_L_layRoyalCoin m_L_314 ⟨⟨rfl, rfl⟩, ⟨(Nat.le_of_ble_eq_true rfl), (Nat.le_of_ble_eq_true rfl)⟩, ⟨by show _ ≤ 601024; omega, by show _ ≤ 7293034; omega⟩⟩ rfl rfl (Nat.le_of_ble_eq_true rfl) dL_law_2423) (fun E hh n1 hx => hx.elim) (fun r hh n hpp => ?_)
  obtain ⟨rfl, hn0, c_p, c_H, c_L, ff⟩ := hpp
  replace b_p : bP k (b + 21) (b + 12) y1.2.1 hh := c_p
  clear c_p
  replace b_H : bHH k (b + 69) (b + 12) y1.2.2.1 hh := c_H
  clear c_H
  replace b_L : bL k (b + 213) y1.2.2.2 hh := c_L
  clear c_L
  replace ff : rx_fr [(b + 21, 10), (b + 69, 130), (b + 213, 1)] _ hh := ff
  replace b_B := b_B.keep ff ⟨s_B_p, s_B_H, s_B_L, trivial⟩
  replace b_s := b_s.keep ff ⟨s_s_p, s_s_H, s_s_L, trivial⟩
  replace b_w := b_w.keep ff ⟨s_w_p, s_w_H, s_w_L, trivial⟩
  replace b_e := b_e.keep ff ⟨s_e_p, s_e_H, s_e_L, trivial⟩
  replace b_m := b_m.keep ff ⟨s_m_p, s_m_H, s_m_L, trivial⟩
  replace fr := rx_frt fr ff (fun a ha => ⟨ha.1, ha.2.1, ha.2.2.2.1, trivial⟩)
  refine rx_istore C dL_law_2426 (by decide) [(5, .int y1.1), (0, .ref sc), (1, .ref b), (2, .ref (b + 204)), (3, .ref (b + 213)), (4, .int x4)] rfl ?_
  refine rx_aload_n C dL_law_2428 3 rfl ?_
  refine rx_aload_n C dL_law_2429 1 rfl ?_
  refine rx_iload C dL_law_2430 5 rfl ?_
  refine rx_iconst C dL_law_2432 (1 : Int32) (by decide) ?_
  refine rx_iadd C dL_law_2433 ?_
  refine rx_sld C hX hbl hbA h1 dL_law_2434 ?_
  refine rx_aload_n C dL_law_2435 1 rfl ?_
  refine rx_iload C dL_law_2436 5 rfl ?_
  refine rx_iconst C dL_law_2438 (2 : Int32) (by decide) ?_
  refine rx_iadd C dL_law_2439 ?_
  refine rx_sld C hX hbl hbA h2 dL_law_2440 ?_
  replace hF := rx_biE hF; obtain ⟨y2, e_y2, hF⟩ := hF
  refine rx_ci (rx_rV C (w_X9_layRoyalCoin e_y2 b_m) Y_X9_layRoyalCoin V_X9_layRoyalCoin m_L_316 (Or.inl ⟨_, _, _, _, b_m.1, rfl⟩) ⟨⟨rfl, rfl⟩, ⟨(Nat.le_of_ble_eq_true rfl), (Nat.le_of_ble_eq_true rfl)⟩, ⟨by show _ ≤ 601024; omega, by show _ ≤ 7293034; omega⟩⟩ rfl rfl (Nat.le_of_ble_eq_true rfl) dL_law_2441) (fun r hh n1 hpp => ?_)
  obtain ⟨rfl, hn, c_m, ff⟩ := hpp
  replace hn : n = n1 := Eq.symm hn
  subst hn
  replace b_m : bM k (b + 204) y2.2 hh := c_m
  clear c_m
  replace ff : rx_fr [(b + 204, 9)] _ hh := ff
  replace b_B := b_B.keep ff ⟨s_B_m, trivial⟩
  replace b_s := b_s.keep ff ⟨s_s_m, trivial⟩
  replace b_p := b_p.keep ff ⟨s_p_m, trivial⟩
  replace b_w := b_w.keep ff ⟨s_w_m, trivial⟩
  replace b_e := b_e.keep ff ⟨s_e_m, trivial⟩
  replace b_H := b_H.keep ff ⟨s_H_m, trivial⟩
  replace b_L := b_L.keep ff ⟨s_L_m, trivial⟩
  replace fr := rx_frt fr ff (fun a ha => ⟨ha.2.2.1, trivial⟩)
  refine rx_istore C dL_law_2444 (by decide) [(6, .int y2.1), (5, .int y1.1), (0, .ref sc), (1, .ref b), (2, .ref (b + 204)), (3, .ref (b + 213)), (4, .int x4)] rfl ?_
  refine rx_aload_n C dL_law_2446 4 rfl ?_
  replace hF := rx_biE hF; obtain ⟨y3, e_y3, hF⟩ := hF
  refine rx_ci (rx_rV C (w_X9_thrown e_y3 b_m) Y_X9_thrown V_X9_thrown m_L_148 (Or.inl ⟨_, _, _, _, b_m.1, rfl⟩) ⟨⟨rfl, rfl⟩, ⟨(Nat.le_of_ble_eq_true rfl), (Nat.le_of_ble_eq_true rfl)⟩, ⟨by show _ ≤ 601024; omega, by show _ ≤ 7293034; omega⟩⟩ rfl rfl (Nat.le_of_ble_eq_true rfl) dL_law_2447) (fun r hh n1 hpp => ?_)
  obtain ⟨rfl, hu⟩ := hpp
  cases hu
  refine rx_iload C dL_law_2450 1 rfl ?_
  refine rx_icmp_eq C dL_law_2452 2457 (by decide) (fun c4 => ?_) (fun c4 => ?_)
  · rw [if_pos c4] at hF
    refine rx_iload C dL_law_2457 1 rfl ?_
    refine rx_if_ne C dL_law_2459 2474 (by decide) (fun c5 => ?_) (fun c5 => ?_)
    · rw [if_neg c5] at hF
      refine rx_goto C dL_law_2474 3126 (by decide) ?_
      obtain rfl := Option.some.inj hF
      refine rx_sub [2, 3, 4, 5, 6] rfl ?_
      exact rx_wide (cells + 3) (slots + 18) (by omega) (by omega) (KK _ _ (hn0) b_p b_H b_m b_L fr)
    · rw [if_pos c5] at hF
      refine rx_aload_n C dL_law_2462 5 rfl ?_
      refine rx_iconst C dL_law_2463 (0 : Int32) (by decide) ?_
      refine rx_ldL C dL_law_2464 b_L ?_
      refine rx_iload C dL_law_2465 0 rfl ?_
      refine rx_i2l C dL_law_2467 ?_
      refine rx_lcmp C dL_law_2468 ?_
      refine rx_if_eq C dL_law_2469 2474 (by decide) (fun c6 => ?_) (fun c6 => ?_)
      · rw [if_pos c6] at hF
        refine rx_goto C dL_law_2474 3126 (by decide) ?_
        obtain rfl := Option.some.inj hF
        refine rx_sub [2, 3, 4, 5, 6] rfl ?_
        exact rx_wide (cells + 3) (slots + 18) (by omega) (by omega) (KK _ _ (hn0) b_p b_H b_m b_L fr)
      · rw [if_neg c6] at hF
        refine rx_iconst C dL_law_2472 (0 : Int32) (by decide) ?_
        cases hF
  · rw [if_neg c4] at hF
    refine rx_iconst C dL_law_2455 (0 : Int32) (by decide) ?_
    cases hF
def F_case_49 (oB : ob) (os : ob) (op : ob) (ow : ob) (oe : ob) (oH : hst) (om : ob) (oL : (Nat → Int64)) (a1 : Int32) (a2 : Int32) : Option (ob × hst × ob × (Nat → Int64)) := (F_L_liftRoyalCoin oB os op ow oe oH oL a1 a2).bind fun y1 => (F_X9_liftRoyalCoin om a1 a2).bind fun y2 => (F_X9_thrown y2.2).bind fun y3 => if y3 = y1.1 then (if y1.1 = (0 : Int32) then (if (lg_cmp ((y1.2.2.2 0)) y2.1.toInt64) = (0 : Int32) then (some (y1.2.1, y1.2.2.1, y2.2, y1.2.2.2)) else (none)) else (some (y1.2.1, y1.2.2.1, y2.2, y1.2.2.2))) else (none)
set_option maxRecDepth 100000 in
set_option maxHeartbeats 4000000 in
theorem lc_49 {b : Nat} {oB : ob} {os : ob} {op : ob} {ow : ob} {oe : ob} {oH : hst} {om : ob} {oL : (Nat → Int64)} {a1 : Int32} {a2 : Int32} {y : ob × hst × ob × (Nat → Int64)} (hst : l.stackTraces = false) (hF : F_case_49 oB os op ow oe oH om oL a1 a2 = some y) (C : rx_C G k P9 M9 c9 cL_law RL 9 ret9 S9 A9 me9) (hN : rx_NC S9) (hX : va_X sc len xs S9 S9.heap) (hbl : sc < S9.heap.size) (hbA : ¬ k 0 ≤ sc) (h1 : vp_in (x4 + (1 : Int32)) len ∧ xs (x4 + (1 : Int32)).toNatClampNeg = a1) (h2 : vp_in (x4 + (2 : Int32)) len ∧ xs (x4 + (2 : Int32)).toNatClampNeg = a2) (hcl : cells + 3 ≤ 601024) (hsl : slots + 18 ≤ 7293034) (b_B : bB k b oB h) (b_s : bS k (b + 12) os h) (b_p : bP k (b + 21) (b + 12) op h) (b_w : bQ k (b + 21 + 10) ow h) (b_e : bQ k (b + 21 + 13) oe h) (b_H : bHH k (b + 69) (b + 12) oH h) (b_m : bM k (b + 204) om h) (b_L : bL k (b + 213) oL h) (KK : ∀ (hh : hp) (n1 : Nat), n ≤ n1 → bP k (b + 21) (b + 12) y.1 hh → bHH k (b + 69) (b + 12) y.2.1 hh → bM k (b + 204) y.2.2.1 hh → bL k (b + 213) y.2.2.2 hh → rx_fr [(b + 21, 10), (b + 69, 130), (b + 204, 9), (b + 213, 1)] h hh → rx_W P9 l E9 room_1 S9 M9 A9 B9 me9 c9 Q9 G k 9 (cells + 3) (slots + 18) hh n1 3126 [(0, .ref sc), (1, .ref b), (2, .ref (b + 204)), (3, .ref (b + 213)), (4, .int x4)] []) : rx_W P9 l E9 room_1 S9 M9 A9 B9 me9 c9 Q9 G k 9 cells slots h n 2477 [(0, .ref sc), (1, .ref b), (2, .ref (b + 204)), (3, .ref (b + 213)), (4, .int x4)] [] := by
  have s_B_p : b + 1 ≤ b + 21 ∨ b + 21 + 10 ≤ b := by omega
  have s_B_H : b + 1 ≤ b + 69 ∨ b + 69 + 130 ≤ b := by omega
  have s_B_L : b + 1 ≤ b + 213 ∨ b + 213 + 1 ≤ b := by omega
  have s_s_p : b + 12 + 9 ≤ b + 21 ∨ b + 21 + 10 ≤ b + 12 := by omega
  have s_s_H : b + 12 + 9 ≤ b + 69 ∨ b + 69 + 130 ≤ b + 12 := by omega
  have s_s_L : b + 12 + 9 ≤ b + 213 ∨ b + 213 + 1 ≤ b + 12 := by omega
  have s_w_p : b + 21 + 10 + 3 ≤ b + 21 ∨ b + 21 + 10 ≤ b + 21 + 10 := by omega
  have s_w_H : b + 21 + 10 + 3 ≤ b + 69 ∨ b + 69 + 130 ≤ b + 21 + 10 := by omega
  have s_w_L : b + 21 + 10 + 3 ≤ b + 213 ∨ b + 213 + 1 ≤ b + 21 + 10 := by omega
  have s_e_p : b + 21 + 13 + 3 ≤ b + 21 ∨ b + 21 + 10 ≤ b + 21 + 13 := by omega
  have s_e_H : b + 21 + 13 + 3 ≤ b + 69 ∨ b + 69 + 130 ≤ b + 21 + 13 := by omega
  have s_e_L : b + 21 + 13 + 3 ≤ b + 213 ∨ b + 213 + 1 ≤ b + 21 + 13 := by omega
  have s_m_p : b + 204 + 9 ≤ b + 21 ∨ b + 21 + 10 ≤ b + 204 := by omega
  have s_m_H : b + 204 + 9 ≤ b + 69 ∨ b + 69 + 130 ≤ b + 204 := by omega
  have s_m_L : b + 204 + 9 ≤ b + 213 ∨ b + 213 + 1 ≤ b + 204 := by omega
  have s_B_m : b + 1 ≤ b + 204 ∨ b + 204 + 9 ≤ b := by omega
  have s_s_m : b + 12 + 9 ≤ b + 204 ∨ b + 204 + 9 ≤ b + 12 := by omega
  have s_p_m : b + 21 + 10 ≤ b + 204 ∨ b + 204 + 9 ≤ b + 21 := by omega
  have s_w_m : b + 21 + 10 + 3 ≤ b + 204 ∨ b + 204 + 9 ≤ b + 21 + 10 := by omega
  have s_e_m : b + 21 + 13 + 3 ≤ b + 204 ∨ b + 204 + 9 ≤ b + 21 + 13 := by omega
  have s_H_m : b + 69 + 130 ≤ b + 204 ∨ b + 204 + 9 ≤ b + 69 := by omega
  have s_L_m : b + 213 + 1 ≤ b + 204 ∨ b + 204 + 9 ≤ b + 213 := by omega
  unfold F_case_49 at hF
  have fr : rx_fr [(b + 21, 10), (b + 69, 130), (b + 204, 9), (b + 213, 1)] h h := rx_fr0
  refine rx_aload_n C dL_law_2477 1 rfl ?_
  refine rx_aload_n C dL_law_2478 0 rfl ?_
  refine rx_iload C dL_law_2479 4 rfl ?_
  refine rx_iconst C dL_law_2481 (1 : Int32) (by decide) ?_
  refine rx_iadd C dL_law_2482 ?_
  refine rx_sld C hX hbl hbA h1 dL_law_2483 ?_
  refine rx_aload_n C dL_law_2484 0 rfl ?_
  refine rx_iload C dL_law_2485 4 rfl ?_
  refine rx_iconst C dL_law_2487 (2 : Int32) (by decide) ?_
  refine rx_iadd C dL_law_2488 ?_
  refine rx_sld C hX hbl hbA h2 dL_law_2489 ?_
  refine rx_aload_n C dL_law_2490 3 rfl ?_
  replace hF := rx_biE hF; obtain ⟨y1, e_y1, hF⟩ := hF
  refine rx_xci (rx_rSX C hN (w_L_liftRoyalCoin hst e_y1 b_B b_s b_p b_w b_e b_H b_L (by omega)) Y_L_liftRoyalCoin S_L_liftRoyalCoin m_L_317 ⟨⟨rfl, rfl⟩, ⟨(Nat.le_of_ble_eq_true rfl), (Nat.le_of_ble_eq_true rfl)⟩, ⟨by show _ ≤ 601024; omega, by show _ ≤ 7293034; omega⟩⟩ rfl rfl (Nat.le_of_ble_eq_true rfl) dL_law_2491) (fun E hh n1 hx => hx.elim) (fun r hh n hpp => ?_)
  obtain ⟨rfl, hn0, c_p, c_H, c_L, ff⟩ := hpp
  replace b_p : bP k (b + 21) (b + 12) y1.2.1 hh := c_p
  clear c_p
  replace b_H : bHH k (b + 69) (b + 12) y1.2.2.1 hh := c_H
  clear c_H
  replace b_L : bL k (b + 213) y1.2.2.2 hh := c_L
  clear c_L
  replace ff : rx_fr [(b + 21, 10), (b + 69, 130), (b + 213, 1)] _ hh := ff
  replace b_B := b_B.keep ff ⟨s_B_p, s_B_H, s_B_L, trivial⟩
  replace b_s := b_s.keep ff ⟨s_s_p, s_s_H, s_s_L, trivial⟩
  replace b_w := b_w.keep ff ⟨s_w_p, s_w_H, s_w_L, trivial⟩
  replace b_e := b_e.keep ff ⟨s_e_p, s_e_H, s_e_L, trivial⟩
  replace b_m := b_m.keep ff ⟨s_m_p, s_m_H, s_m_L, trivial⟩
  replace fr := rx_frt fr ff (fun a ha => ⟨ha.1, ha.2.1, ha.2.2.2.1, trivial⟩)
  refine rx_istore C dL_law_2494 (by decide) [(5, .int y1.1), (0, .ref sc), (1, .ref b), (2, .ref (b + 204)), (3, .ref (b + 213)), (4, .int x4)] rfl ?_
  refine rx_aload_n C dL_law_2496 3 rfl ?_
  refine rx_aload_n C dL_law_2497 1 rfl ?_
  refine rx_iload C dL_law_2498 5 rfl ?_
  refine rx_iconst C dL_law_2500 (1 : Int32) (by decide) ?_
  refine rx_iadd C dL_law_2501 ?_
  refine rx_sld C hX hbl hbA h1 dL_law_2502 ?_
  refine rx_aload_n C dL_law_2503 1 rfl ?_
  refine rx_iload C dL_law_2504 5 rfl ?_
  refine rx_iconst C dL_law_2506 (2 : Int32) (by decide) ?_
  refine rx_iadd C dL_law_2507 ?_
  refine rx_sld C hX hbl hbA h2 dL_law_2508 ?_
  replace hF := rx_biE hF; obtain ⟨y2, e_y2, hF⟩ := hF
  refine rx_ci (rx_rV C (w_X9_liftRoyalCoin e_y2 b_m) Y_X9_liftRoyalCoin V_X9_liftRoyalCoin m_L_319 (Or.inl ⟨_, _, _, _, b_m.1, rfl⟩) ⟨⟨rfl, rfl⟩, ⟨(Nat.le_of_ble_eq_true rfl), (Nat.le_of_ble_eq_true rfl)⟩, ⟨by show _ ≤ 601024; omega, by show _ ≤ 7293034; omega⟩⟩ rfl rfl (Nat.le_of_ble_eq_true rfl) dL_law_2509) (fun r hh n1 hpp => ?_)
  obtain ⟨rfl, hn, c_m, ff⟩ := hpp
  replace hn : n = n1 := Eq.symm hn
  subst hn
  replace b_m : bM k (b + 204) y2.2 hh := c_m
  clear c_m
  replace ff : rx_fr [(b + 204, 9)] _ hh := ff
  replace b_B := b_B.keep ff ⟨s_B_m, trivial⟩
  replace b_s := b_s.keep ff ⟨s_s_m, trivial⟩
  replace b_p := b_p.keep ff ⟨s_p_m, trivial⟩
  replace b_w := b_w.keep ff ⟨s_w_m, trivial⟩
  replace b_e := b_e.keep ff ⟨s_e_m, trivial⟩
  replace b_H := b_H.keep ff ⟨s_H_m, trivial⟩
  replace b_L := b_L.keep ff ⟨s_L_m, trivial⟩
  replace fr := rx_frt fr ff (fun a ha => ⟨ha.2.2.1, trivial⟩)
  refine rx_istore C dL_law_2512 (by decide) [(6, .int y2.1), (5, .int y1.1), (0, .ref sc), (1, .ref b), (2, .ref (b + 204)), (3, .ref (b + 213)), (4, .int x4)] rfl ?_
  refine rx_aload_n C dL_law_2514 4 rfl ?_
  replace hF := rx_biE hF; obtain ⟨y3, e_y3, hF⟩ := hF
  refine rx_ci (rx_rV C (w_X9_thrown e_y3 b_m) Y_X9_thrown V_X9_thrown m_L_148 (Or.inl ⟨_, _, _, _, b_m.1, rfl⟩) ⟨⟨rfl, rfl⟩, ⟨(Nat.le_of_ble_eq_true rfl), (Nat.le_of_ble_eq_true rfl)⟩, ⟨by show _ ≤ 601024; omega, by show _ ≤ 7293034; omega⟩⟩ rfl rfl (Nat.le_of_ble_eq_true rfl) dL_law_2515) (fun r hh n1 hpp => ?_)
  obtain ⟨rfl, hu⟩ := hpp
  cases hu
  refine rx_iload C dL_law_2518 1 rfl ?_
  refine rx_icmp_eq C dL_law_2520 2525 (by decide) (fun c4 => ?_) (fun c4 => ?_)
  · rw [if_pos c4] at hF
    refine rx_iload C dL_law_2525 1 rfl ?_
    refine rx_if_ne C dL_law_2527 2542 (by decide) (fun c5 => ?_) (fun c5 => ?_)
    · rw [if_neg c5] at hF
      refine rx_goto C dL_law_2542 3126 (by decide) ?_
      obtain rfl := Option.some.inj hF
      refine rx_sub [2, 3, 4, 5, 6] rfl ?_
      exact rx_wide (cells + 3) (slots + 18) (by omega) (by omega) (KK _ _ (hn0) b_p b_H b_m b_L fr)
    · rw [if_pos c5] at hF
      refine rx_aload_n C dL_law_2530 5 rfl ?_
      refine rx_iconst C dL_law_2531 (0 : Int32) (by decide) ?_
      refine rx_ldL C dL_law_2532 b_L ?_
      refine rx_iload C dL_law_2533 0 rfl ?_
      refine rx_i2l C dL_law_2535 ?_
      refine rx_lcmp C dL_law_2536 ?_
      refine rx_if_eq C dL_law_2537 2542 (by decide) (fun c6 => ?_) (fun c6 => ?_)
      · rw [if_pos c6] at hF
        refine rx_goto C dL_law_2542 3126 (by decide) ?_
        obtain rfl := Option.some.inj hF
        refine rx_sub [2, 3, 4, 5, 6] rfl ?_
        exact rx_wide (cells + 3) (slots + 18) (by omega) (by omega) (KK _ _ (hn0) b_p b_H b_m b_L fr)
      · rw [if_neg c6] at hF
        refine rx_iconst C dL_law_2540 (0 : Int32) (by decide) ?_
        cases hF
  · rw [if_neg c4] at hF
    refine rx_iconst C dL_law_2523 (0 : Int32) (by decide) ?_
    cases hF
def F_case_50 (oB : ob) (os : ob) (op : ob) (ow : ob) (oe : ob) (oH : hst) (om : ob) (oL : (Nat → Int64)) (a1 : Int32) (a2 : Int32) : Option (ob × hst × ob × (Nat → Int64)) := (F_L_swapRags oB os op ow oe oH oL a1 a2).bind fun y1 => (F_X9_swapRags om a1 a2).bind fun y2 => (F_X9_thrown y2.2).bind fun y3 => if y3 = y1.1 then (if y1.1 = (0 : Int32) then (if (lg_cmp ((y1.2.2.2 0)) y2.1.toInt64) = (0 : Int32) then (some (y1.2.1, y1.2.2.1, y2.2, y1.2.2.2)) else (none)) else (some (y1.2.1, y1.2.2.1, y2.2, y1.2.2.2))) else (none)
set_option maxRecDepth 100000 in
set_option maxHeartbeats 4000000 in
theorem lc_50 {b : Nat} {oB : ob} {os : ob} {op : ob} {ow : ob} {oe : ob} {oH : hst} {om : ob} {oL : (Nat → Int64)} {a1 : Int32} {a2 : Int32} {y : ob × hst × ob × (Nat → Int64)} (hst : l.stackTraces = false) (hF : F_case_50 oB os op ow oe oH om oL a1 a2 = some y) (C : rx_C G k P9 M9 c9 cL_law RL 9 ret9 S9 A9 me9) (hN : rx_NC S9) (hX : va_X sc len xs S9 S9.heap) (hbl : sc < S9.heap.size) (hbA : ¬ k 0 ≤ sc) (h1 : vp_in (x4 + (1 : Int32)) len ∧ xs (x4 + (1 : Int32)).toNatClampNeg = a1) (h2 : vp_in (x4 + (2 : Int32)) len ∧ xs (x4 + (2 : Int32)).toNatClampNeg = a2) (hcl : cells + 3 ≤ 601024) (hsl : slots + 18 ≤ 7293034) (b_B : bB k b oB h) (b_s : bS k (b + 12) os h) (b_p : bP k (b + 21) (b + 12) op h) (b_w : bQ k (b + 21 + 10) ow h) (b_e : bQ k (b + 21 + 13) oe h) (b_H : bHH k (b + 69) (b + 12) oH h) (b_m : bM k (b + 204) om h) (b_L : bL k (b + 213) oL h) (KK : ∀ (hh : hp) (n1 : Nat), n ≤ n1 → bP k (b + 21) (b + 12) y.1 hh → bHH k (b + 69) (b + 12) y.2.1 hh → bM k (b + 204) y.2.2.1 hh → bL k (b + 213) y.2.2.2 hh → rx_fr [(b + 21, 10), (b + 69, 130), (b + 204, 9), (b + 213, 1)] h hh → rx_W P9 l E9 room_1 S9 M9 A9 B9 me9 c9 Q9 G k 9 (cells + 3) (slots + 18) hh n1 3126 [(0, .ref sc), (1, .ref b), (2, .ref (b + 204)), (3, .ref (b + 213)), (4, .int x4)] []) : rx_W P9 l E9 room_1 S9 M9 A9 B9 me9 c9 Q9 G k 9 cells slots h n 2545 [(0, .ref sc), (1, .ref b), (2, .ref (b + 204)), (3, .ref (b + 213)), (4, .int x4)] [] := by
  have s_B_p : b + 1 ≤ b + 21 ∨ b + 21 + 10 ≤ b := by omega
  have s_B_H : b + 1 ≤ b + 69 ∨ b + 69 + 130 ≤ b := by omega
  have s_B_L : b + 1 ≤ b + 213 ∨ b + 213 + 1 ≤ b := by omega
  have s_s_p : b + 12 + 9 ≤ b + 21 ∨ b + 21 + 10 ≤ b + 12 := by omega
  have s_s_H : b + 12 + 9 ≤ b + 69 ∨ b + 69 + 130 ≤ b + 12 := by omega
  have s_s_L : b + 12 + 9 ≤ b + 213 ∨ b + 213 + 1 ≤ b + 12 := by omega
  have s_w_p : b + 21 + 10 + 3 ≤ b + 21 ∨ b + 21 + 10 ≤ b + 21 + 10 := by omega
  have s_w_H : b + 21 + 10 + 3 ≤ b + 69 ∨ b + 69 + 130 ≤ b + 21 + 10 := by omega
  have s_w_L : b + 21 + 10 + 3 ≤ b + 213 ∨ b + 213 + 1 ≤ b + 21 + 10 := by omega
  have s_e_p : b + 21 + 13 + 3 ≤ b + 21 ∨ b + 21 + 10 ≤ b + 21 + 13 := by omega
  have s_e_H : b + 21 + 13 + 3 ≤ b + 69 ∨ b + 69 + 130 ≤ b + 21 + 13 := by omega
  have s_e_L : b + 21 + 13 + 3 ≤ b + 213 ∨ b + 213 + 1 ≤ b + 21 + 13 := by omega
  have s_m_p : b + 204 + 9 ≤ b + 21 ∨ b + 21 + 10 ≤ b + 204 := by omega
  have s_m_H : b + 204 + 9 ≤ b + 69 ∨ b + 69 + 130 ≤ b + 204 := by omega
  have s_m_L : b + 204 + 9 ≤ b + 213 ∨ b + 213 + 1 ≤ b + 204 := by omega
  have s_B_m : b + 1 ≤ b + 204 ∨ b + 204 + 9 ≤ b := by omega
  have s_s_m : b + 12 + 9 ≤ b + 204 ∨ b + 204 + 9 ≤ b + 12 := by omega
  have s_p_m : b + 21 + 10 ≤ b + 204 ∨ b + 204 + 9 ≤ b + 21 := by omega
  have s_w_m : b + 21 + 10 + 3 ≤ b + 204 ∨ b + 204 + 9 ≤ b + 21 + 10 := by omega
  have s_e_m : b + 21 + 13 + 3 ≤ b + 204 ∨ b + 204 + 9 ≤ b + 21 + 13 := by omega
  have s_H_m : b + 69 + 130 ≤ b + 204 ∨ b + 204 + 9 ≤ b + 69 := by omega
  have s_L_m : b + 213 + 1 ≤ b + 204 ∨ b + 204 + 9 ≤ b + 213 := by omega
  unfold F_case_50 at hF
  have fr : rx_fr [(b + 21, 10), (b + 69, 130), (b + 204, 9), (b + 213, 1)] h h := rx_fr0
  refine rx_aload_n C dL_law_2545 1 rfl ?_
  refine rx_aload_n C dL_law_2546 0 rfl ?_
  refine rx_iload C dL_law_2547 4 rfl ?_
  refine rx_iconst C dL_law_2549 (1 : Int32) (by decide) ?_
  refine rx_iadd C dL_law_2550 ?_
  refine rx_sld C hX hbl hbA h1 dL_law_2551 ?_
  refine rx_aload_n C dL_law_2552 0 rfl ?_
  refine rx_iload C dL_law_2553 4 rfl ?_
  refine rx_iconst C dL_law_2555 (2 : Int32) (by decide) ?_
  refine rx_iadd C dL_law_2556 ?_
  refine rx_sld C hX hbl hbA h2 dL_law_2557 ?_
  refine rx_aload_n C dL_law_2558 3 rfl ?_
  replace hF := rx_biE hF; obtain ⟨y1, e_y1, hF⟩ := hF
  refine rx_xci (rx_rSX C hN (w_L_swapRags hst e_y1 b_B b_s b_p b_w b_e b_H b_L (by omega)) Y_L_swapRags S_L_swapRags m_L_320 ⟨⟨rfl, rfl⟩, ⟨(Nat.le_of_ble_eq_true rfl), (Nat.le_of_ble_eq_true rfl)⟩, ⟨by show _ ≤ 601024; omega, by show _ ≤ 7293034; omega⟩⟩ rfl rfl (Nat.le_of_ble_eq_true rfl) dL_law_2559) (fun E hh n1 hx => hx.elim) (fun r hh n hpp => ?_)
  obtain ⟨rfl, hn0, c_p, c_H, c_L, ff⟩ := hpp
  replace b_p : bP k (b + 21) (b + 12) y1.2.1 hh := c_p
  clear c_p
  replace b_H : bHH k (b + 69) (b + 12) y1.2.2.1 hh := c_H
  clear c_H
  replace b_L : bL k (b + 213) y1.2.2.2 hh := c_L
  clear c_L
  replace ff : rx_fr [(b + 21, 10), (b + 69, 130), (b + 213, 1)] _ hh := ff
  replace b_B := b_B.keep ff ⟨s_B_p, s_B_H, s_B_L, trivial⟩
  replace b_s := b_s.keep ff ⟨s_s_p, s_s_H, s_s_L, trivial⟩
  replace b_w := b_w.keep ff ⟨s_w_p, s_w_H, s_w_L, trivial⟩
  replace b_e := b_e.keep ff ⟨s_e_p, s_e_H, s_e_L, trivial⟩
  replace b_m := b_m.keep ff ⟨s_m_p, s_m_H, s_m_L, trivial⟩
  replace fr := rx_frt fr ff (fun a ha => ⟨ha.1, ha.2.1, ha.2.2.2.1, trivial⟩)
  refine rx_istore C dL_law_2562 (by decide) [(5, .int y1.1), (0, .ref sc), (1, .ref b), (2, .ref (b + 204)), (3, .ref (b + 213)), (4, .int x4)] rfl ?_
  refine rx_aload_n C dL_law_2564 3 rfl ?_
  refine rx_aload_n C dL_law_2565 1 rfl ?_
  refine rx_iload C dL_law_2566 5 rfl ?_
  refine rx_iconst C dL_law_2568 (1 : Int32) (by decide) ?_
  refine rx_iadd C dL_law_2569 ?_
  refine rx_sld C hX hbl hbA h1 dL_law_2570 ?_
  refine rx_aload_n C dL_law_2571 1 rfl ?_
  refine rx_iload C dL_law_2572 5 rfl ?_
  refine rx_iconst C dL_law_2574 (2 : Int32) (by decide) ?_
  refine rx_iadd C dL_law_2575 ?_
  refine rx_sld C hX hbl hbA h2 dL_law_2576 ?_
  replace hF := rx_biE hF; obtain ⟨y2, e_y2, hF⟩ := hF
  refine rx_ci (rx_rV C (w_X9_swapRags e_y2 b_m) Y_X9_swapRags V_X9_swapRags m_L_322 (Or.inl ⟨_, _, _, _, b_m.1, rfl⟩) ⟨⟨rfl, rfl⟩, ⟨(Nat.le_of_ble_eq_true rfl), (Nat.le_of_ble_eq_true rfl)⟩, ⟨by show _ ≤ 601024; omega, by show _ ≤ 7293034; omega⟩⟩ rfl rfl (Nat.le_of_ble_eq_true rfl) dL_law_2577) (fun r hh n1 hpp => ?_)
  obtain ⟨rfl, hn, c_m, ff⟩ := hpp
  replace hn : n = n1 := Eq.symm hn
  subst hn
  replace b_m : bM k (b + 204) y2.2 hh := c_m
  clear c_m
  replace ff : rx_fr [(b + 204, 9)] _ hh := ff
  replace b_B := b_B.keep ff ⟨s_B_m, trivial⟩
  replace b_s := b_s.keep ff ⟨s_s_m, trivial⟩
  replace b_p := b_p.keep ff ⟨s_p_m, trivial⟩
  replace b_w := b_w.keep ff ⟨s_w_m, trivial⟩
  replace b_e := b_e.keep ff ⟨s_e_m, trivial⟩
  replace b_H := b_H.keep ff ⟨s_H_m, trivial⟩
  replace b_L := b_L.keep ff ⟨s_L_m, trivial⟩
  replace fr := rx_frt fr ff (fun a ha => ⟨ha.2.2.1, trivial⟩)
  refine rx_istore C dL_law_2580 (by decide) [(6, .int y2.1), (5, .int y1.1), (0, .ref sc), (1, .ref b), (2, .ref (b + 204)), (3, .ref (b + 213)), (4, .int x4)] rfl ?_
  refine rx_aload_n C dL_law_2582 4 rfl ?_
  replace hF := rx_biE hF; obtain ⟨y3, e_y3, hF⟩ := hF
  refine rx_ci (rx_rV C (w_X9_thrown e_y3 b_m) Y_X9_thrown V_X9_thrown m_L_148 (Or.inl ⟨_, _, _, _, b_m.1, rfl⟩) ⟨⟨rfl, rfl⟩, ⟨(Nat.le_of_ble_eq_true rfl), (Nat.le_of_ble_eq_true rfl)⟩, ⟨by show _ ≤ 601024; omega, by show _ ≤ 7293034; omega⟩⟩ rfl rfl (Nat.le_of_ble_eq_true rfl) dL_law_2583) (fun r hh n1 hpp => ?_)
  obtain ⟨rfl, hu⟩ := hpp
  cases hu
  refine rx_iload C dL_law_2586 1 rfl ?_
  refine rx_icmp_eq C dL_law_2588 2593 (by decide) (fun c4 => ?_) (fun c4 => ?_)
  · rw [if_pos c4] at hF
    refine rx_iload C dL_law_2593 1 rfl ?_
    refine rx_if_ne C dL_law_2595 2610 (by decide) (fun c5 => ?_) (fun c5 => ?_)
    · rw [if_neg c5] at hF
      refine rx_goto C dL_law_2610 3126 (by decide) ?_
      obtain rfl := Option.some.inj hF
      refine rx_sub [2, 3, 4, 5, 6] rfl ?_
      exact rx_wide (cells + 3) (slots + 18) (by omega) (by omega) (KK _ _ (hn0) b_p b_H b_m b_L fr)
    · rw [if_pos c5] at hF
      refine rx_aload_n C dL_law_2598 5 rfl ?_
      refine rx_iconst C dL_law_2599 (0 : Int32) (by decide) ?_
      refine rx_ldL C dL_law_2600 b_L ?_
      refine rx_iload C dL_law_2601 0 rfl ?_
      refine rx_i2l C dL_law_2603 ?_
      refine rx_lcmp C dL_law_2604 ?_
      refine rx_if_eq C dL_law_2605 2610 (by decide) (fun c6 => ?_) (fun c6 => ?_)
      · rw [if_pos c6] at hF
        refine rx_goto C dL_law_2610 3126 (by decide) ?_
        obtain rfl := Option.some.inj hF
        refine rx_sub [2, 3, 4, 5, 6] rfl ?_
        exact rx_wide (cells + 3) (slots + 18) (by omega) (by omega) (KK _ _ (hn0) b_p b_H b_m b_L fr)
      · rw [if_neg c6] at hF
        refine rx_iconst C dL_law_2608 (0 : Int32) (by decide) ?_
        cases hF
  · rw [if_neg c4] at hF
    refine rx_iconst C dL_law_2591 (0 : Int32) (by decide) ?_
    cases hF
def F_case_51 (oB : ob) (os : ob) (op : ob) (ow : ob) (oe : ob) (oH : hst) (om : ob) (oL : (Nat → Int64)) (a1 : Int32) (a2 : Int32) : Option (ob × ob × hst × ob × (Nat → Int64)) := (F_L_joinQueue oB os op ow oe oH oL a1 a2).bind fun y1 => (F_X9_joinQueue om a1 a2).bind fun y2 => (F_X9_thrown y2.2).bind fun y3 => if y3 = y1.1 then (if y1.1 = (0 : Int32) then (if (lg_cmp ((y1.2.2.2.2 0)) y2.1.toInt64) = (0 : Int32) then (some (y1.2.1, y1.2.2.1, y1.2.2.2.1, y2.2, y1.2.2.2.2)) else (none)) else (some (y1.2.1, y1.2.2.1, y1.2.2.2.1, y2.2, y1.2.2.2.2))) else (none)
set_option maxRecDepth 100000 in
set_option maxHeartbeats 4000000 in
theorem lc_51 {b : Nat} {oB : ob} {os : ob} {op : ob} {ow : ob} {oe : ob} {oH : hst} {om : ob} {oL : (Nat → Int64)} {a1 : Int32} {a2 : Int32} {y : ob × ob × hst × ob × (Nat → Int64)} (hst : l.stackTraces = false) (hF : F_case_51 oB os op ow oe oH om oL a1 a2 = some y) (C : rx_C G k P9 M9 c9 cL_law RL 9 ret9 S9 A9 me9) (hN : rx_NC S9) (hX : va_X sc len xs S9 S9.heap) (hbl : sc < S9.heap.size) (hbA : ¬ k 0 ≤ sc) (h1 : vp_in (x4 + (1 : Int32)) len ∧ xs (x4 + (1 : Int32)).toNatClampNeg = a1) (h2 : vp_in (x4 + (2 : Int32)) len ∧ xs (x4 + (2 : Int32)).toNatClampNeg = a2) (hcl : cells + 3 ≤ 601024) (hsl : slots + 18 ≤ 7293034) (b_B : bB k b oB h) (b_s : bS k (b + 12) os h) (b_p : bP k (b + 21) (b + 12) op h) (b_w : bQ k (b + 21 + 10) ow h) (b_e : bQ k (b + 21 + 13) oe h) (b_H : bHH k (b + 69) (b + 12) oH h) (b_m : bM k (b + 204) om h) (b_L : bL k (b + 213) oL h) (KK : ∀ (hh : hp) (n1 : Nat), n ≤ n1 → bQ k (b + 21 + 10) y.1 hh → bQ k (b + 21 + 13) y.2.1 hh → bHH k (b + 69) (b + 12) y.2.2.1 hh → bM k (b + 204) y.2.2.2.1 hh → bL k (b + 213) y.2.2.2.2 hh → rx_fr [(b + 21 + 10, 3), (b + 21 + 13, 3), (b + 69, 130), (b + 204, 9), (b + 213, 1)] h hh → rx_W P9 l E9 room_1 S9 M9 A9 B9 me9 c9 Q9 G k 9 (cells + 3) (slots + 18) hh n1 3126 [(0, .ref sc), (1, .ref b), (2, .ref (b + 204)), (3, .ref (b + 213)), (4, .int x4)] []) : rx_W P9 l E9 room_1 S9 M9 A9 B9 me9 c9 Q9 G k 9 cells slots h n 2613 [(0, .ref sc), (1, .ref b), (2, .ref (b + 204)), (3, .ref (b + 213)), (4, .int x4)] [] := by
  have s_B_w : b + 1 ≤ b + 21 + 10 ∨ b + 21 + 10 + 3 ≤ b := by omega
  have s_B_e : b + 1 ≤ b + 21 + 13 ∨ b + 21 + 13 + 3 ≤ b := by omega
  have s_B_H : b + 1 ≤ b + 69 ∨ b + 69 + 130 ≤ b := by omega
  have s_B_L : b + 1 ≤ b + 213 ∨ b + 213 + 1 ≤ b := by omega
  have s_s_w : b + 12 + 9 ≤ b + 21 + 10 ∨ b + 21 + 10 + 3 ≤ b + 12 := by omega
  have s_s_e : b + 12 + 9 ≤ b + 21 + 13 ∨ b + 21 + 13 + 3 ≤ b + 12 := by omega
  have s_s_H : b + 12 + 9 ≤ b + 69 ∨ b + 69 + 130 ≤ b + 12 := by omega
  have s_s_L : b + 12 + 9 ≤ b + 213 ∨ b + 213 + 1 ≤ b + 12 := by omega
  have s_p_w : b + 21 + 10 ≤ b + 21 + 10 ∨ b + 21 + 10 + 3 ≤ b + 21 := by omega
  have s_p_e : b + 21 + 10 ≤ b + 21 + 13 ∨ b + 21 + 13 + 3 ≤ b + 21 := by omega
  have s_p_H : b + 21 + 10 ≤ b + 69 ∨ b + 69 + 130 ≤ b + 21 := by omega
  have s_p_L : b + 21 + 10 ≤ b + 213 ∨ b + 213 + 1 ≤ b + 21 := by omega
  have s_m_w : b + 204 + 9 ≤ b + 21 + 10 ∨ b + 21 + 10 + 3 ≤ b + 204 := by omega
  have s_m_e : b + 204 + 9 ≤ b + 21 + 13 ∨ b + 21 + 13 + 3 ≤ b + 204 := by omega
  have s_m_H : b + 204 + 9 ≤ b + 69 ∨ b + 69 + 130 ≤ b + 204 := by omega
  have s_m_L : b + 204 + 9 ≤ b + 213 ∨ b + 213 + 1 ≤ b + 204 := by omega
  have s_B_m : b + 1 ≤ b + 204 ∨ b + 204 + 9 ≤ b := by omega
  have s_s_m : b + 12 + 9 ≤ b + 204 ∨ b + 204 + 9 ≤ b + 12 := by omega
  have s_p_m : b + 21 + 10 ≤ b + 204 ∨ b + 204 + 9 ≤ b + 21 := by omega
  have s_w_m : b + 21 + 10 + 3 ≤ b + 204 ∨ b + 204 + 9 ≤ b + 21 + 10 := by omega
  have s_e_m : b + 21 + 13 + 3 ≤ b + 204 ∨ b + 204 + 9 ≤ b + 21 + 13 := by omega
  have s_H_m : b + 69 + 130 ≤ b + 204 ∨ b + 204 + 9 ≤ b + 69 := by omega
  have s_L_m : b + 213 + 1 ≤ b + 204 ∨ b + 204 + 9 ≤ b + 213 := by omega
  unfold F_case_51 at hF
  have fr : rx_fr [(b + 21 + 10, 3), (b + 21 + 13, 3), (b + 69, 130), (b + 204, 9), (b + 213, 1)] h h := rx_fr0
  refine rx_aload_n C dL_law_2613 1 rfl ?_
  refine rx_aload_n C dL_law_2614 0 rfl ?_
  refine rx_iload C dL_law_2615 4 rfl ?_
  refine rx_iconst C dL_law_2617 (1 : Int32) (by decide) ?_
  refine rx_iadd C dL_law_2618 ?_
  refine rx_sld C hX hbl hbA h1 dL_law_2619 ?_
  refine rx_aload_n C dL_law_2620 0 rfl ?_
  refine rx_iload C dL_law_2621 4 rfl ?_
  refine rx_iconst C dL_law_2623 (2 : Int32) (by decide) ?_
  refine rx_iadd C dL_law_2624 ?_
  refine rx_sld C hX hbl hbA h2 dL_law_2625 ?_
  refine rx_aload_n C dL_law_2626 3 rfl ?_
  replace hF := rx_biE hF; obtain ⟨y1, e_y1, hF⟩ := hF
  refine rx_xci (rx_rSX C hN (w_L_joinQueue hst e_y1 b_B b_s b_p b_w b_e b_H b_L (by omega)) Y_L_joinQueue S_L_joinQueue m_L_323 ⟨⟨rfl, rfl⟩, ⟨(Nat.le_of_ble_eq_true rfl), (Nat.le_of_ble_eq_true rfl)⟩, ⟨by show _ ≤ 601024; omega, by show _ ≤ 7293034; omega⟩⟩ rfl rfl (Nat.le_of_ble_eq_true rfl) dL_law_2627) (fun E hh n1 hx => hx.elim) (fun r hh n hpp => ?_)
  obtain ⟨rfl, hn0, c_w, c_e, c_H, c_L, ff⟩ := hpp
  replace b_w : bQ k (b + 21 + 10) y1.2.1 hh := c_w
  clear c_w
  replace b_e : bQ k (b + 21 + 13) y1.2.2.1 hh := c_e
  clear c_e
  replace b_H : bHH k (b + 69) (b + 12) y1.2.2.2.1 hh := c_H
  clear c_H
  replace b_L : bL k (b + 213) y1.2.2.2.2 hh := c_L
  clear c_L
  replace ff : rx_fr [(b + 21 + 10, 3), (b + 21 + 13, 3), (b + 69, 130), (b + 213, 1)] _ hh := ff
  replace b_B := b_B.keep ff ⟨s_B_w, s_B_e, s_B_H, s_B_L, trivial⟩
  replace b_s := b_s.keep ff ⟨s_s_w, s_s_e, s_s_H, s_s_L, trivial⟩
  replace b_p := b_p.keep ff ⟨s_p_w, s_p_e, s_p_H, s_p_L, trivial⟩
  replace b_m := b_m.keep ff ⟨s_m_w, s_m_e, s_m_H, s_m_L, trivial⟩
  replace fr := rx_frt fr ff (fun a ha => ⟨ha.1, ha.2.1, ha.2.2.1, ha.2.2.2.2.1, trivial⟩)
  refine rx_istore C dL_law_2630 (by decide) [(5, .int y1.1), (0, .ref sc), (1, .ref b), (2, .ref (b + 204)), (3, .ref (b + 213)), (4, .int x4)] rfl ?_
  refine rx_aload_n C dL_law_2632 3 rfl ?_
  refine rx_aload_n C dL_law_2633 1 rfl ?_
  refine rx_iload C dL_law_2634 5 rfl ?_
  refine rx_iconst C dL_law_2636 (1 : Int32) (by decide) ?_
  refine rx_iadd C dL_law_2637 ?_
  refine rx_sld C hX hbl hbA h1 dL_law_2638 ?_
  refine rx_aload_n C dL_law_2639 1 rfl ?_
  refine rx_iload C dL_law_2640 5 rfl ?_
  refine rx_iconst C dL_law_2642 (2 : Int32) (by decide) ?_
  refine rx_iadd C dL_law_2643 ?_
  refine rx_sld C hX hbl hbA h2 dL_law_2644 ?_
  replace hF := rx_biE hF; obtain ⟨y2, e_y2, hF⟩ := hF
  refine rx_ci (rx_rV C (w_X9_joinQueue e_y2 b_m) Y_X9_joinQueue V_X9_joinQueue m_L_325 (Or.inl ⟨_, _, _, _, b_m.1, rfl⟩) ⟨⟨rfl, rfl⟩, ⟨(Nat.le_of_ble_eq_true rfl), (Nat.le_of_ble_eq_true rfl)⟩, ⟨by show _ ≤ 601024; omega, by show _ ≤ 7293034; omega⟩⟩ rfl rfl (Nat.le_of_ble_eq_true rfl) dL_law_2645) (fun r hh n1 hpp => ?_)
  obtain ⟨rfl, hn, c_m, ff⟩ := hpp
  replace hn : n = n1 := Eq.symm hn
  subst hn
  replace b_m : bM k (b + 204) y2.2 hh := c_m
  clear c_m
  replace ff : rx_fr [(b + 204, 9)] _ hh := ff
  replace b_B := b_B.keep ff ⟨s_B_m, trivial⟩
  replace b_s := b_s.keep ff ⟨s_s_m, trivial⟩
  replace b_p := b_p.keep ff ⟨s_p_m, trivial⟩
  replace b_w := b_w.keep ff ⟨s_w_m, trivial⟩
  replace b_e := b_e.keep ff ⟨s_e_m, trivial⟩
  replace b_H := b_H.keep ff ⟨s_H_m, trivial⟩
  replace b_L := b_L.keep ff ⟨s_L_m, trivial⟩
  replace fr := rx_frt fr ff (fun a ha => ⟨ha.2.2.2.1, trivial⟩)
  refine rx_istore C dL_law_2648 (by decide) [(6, .int y2.1), (5, .int y1.1), (0, .ref sc), (1, .ref b), (2, .ref (b + 204)), (3, .ref (b + 213)), (4, .int x4)] rfl ?_
  refine rx_aload_n C dL_law_2650 4 rfl ?_
  replace hF := rx_biE hF; obtain ⟨y3, e_y3, hF⟩ := hF
  refine rx_ci (rx_rV C (w_X9_thrown e_y3 b_m) Y_X9_thrown V_X9_thrown m_L_148 (Or.inl ⟨_, _, _, _, b_m.1, rfl⟩) ⟨⟨rfl, rfl⟩, ⟨(Nat.le_of_ble_eq_true rfl), (Nat.le_of_ble_eq_true rfl)⟩, ⟨by show _ ≤ 601024; omega, by show _ ≤ 7293034; omega⟩⟩ rfl rfl (Nat.le_of_ble_eq_true rfl) dL_law_2651) (fun r hh n1 hpp => ?_)
  obtain ⟨rfl, hu⟩ := hpp
  cases hu
  refine rx_iload C dL_law_2654 1 rfl ?_
  refine rx_icmp_eq C dL_law_2656 2661 (by decide) (fun c4 => ?_) (fun c4 => ?_)
  · rw [if_pos c4] at hF
    refine rx_iload C dL_law_2661 1 rfl ?_
    refine rx_if_ne C dL_law_2663 2678 (by decide) (fun c5 => ?_) (fun c5 => ?_)
    · rw [if_neg c5] at hF
      refine rx_goto C dL_law_2678 3126 (by decide) ?_
      obtain rfl := Option.some.inj hF
      refine rx_sub [2, 3, 4, 5, 6] rfl ?_
      exact rx_wide (cells + 3) (slots + 18) (by omega) (by omega) (KK _ _ (hn0) b_w b_e b_H b_m b_L fr)
    · rw [if_pos c5] at hF
      refine rx_aload_n C dL_law_2666 5 rfl ?_
      refine rx_iconst C dL_law_2667 (0 : Int32) (by decide) ?_
      refine rx_ldL C dL_law_2668 b_L ?_
      refine rx_iload C dL_law_2669 0 rfl ?_
      refine rx_i2l C dL_law_2671 ?_
      refine rx_lcmp C dL_law_2672 ?_
      refine rx_if_eq C dL_law_2673 2678 (by decide) (fun c6 => ?_) (fun c6 => ?_)
      · rw [if_pos c6] at hF
        refine rx_goto C dL_law_2678 3126 (by decide) ?_
        obtain rfl := Option.some.inj hF
        refine rx_sub [2, 3, 4, 5, 6] rfl ?_
        exact rx_wide (cells + 3) (slots + 18) (by omega) (by omega) (KK _ _ (hn0) b_w b_e b_H b_m b_L fr)
      · rw [if_neg c6] at hF
        refine rx_iconst C dL_law_2676 (0 : Int32) (by decide) ?_
        cases hF
  · rw [if_neg c4] at hF
    refine rx_iconst C dL_law_2659 (0 : Int32) (by decide) ?_
    cases hF
def F_case_52 (oB : ob) (os : ob) (op : ob) (ow : ob) (oe : ob) (oH : hst) (om : ob) (oL : (Nat → Int64)) (a1 : Int32) : Option (ob × ob × hst × ob × (Nat → Int64)) := (F_L_quitQueue oB os op ow oe oH oL a1).bind fun y1 => (F_X9_quitQueue om a1).bind fun y2 => (F_X9_thrown y2.2).bind fun y3 => if y3 = y1.1 then (if y1.1 = (0 : Int32) then (if (lg_cmp ((y1.2.2.2.2 0)) y2.1.toInt64) = (0 : Int32) then (some (y1.2.1, y1.2.2.1, y1.2.2.2.1, y2.2, y1.2.2.2.2)) else (none)) else (some (y1.2.1, y1.2.2.1, y1.2.2.2.1, y2.2, y1.2.2.2.2))) else (none)
set_option maxRecDepth 100000 in
set_option maxHeartbeats 4000000 in
theorem lc_52 {b : Nat} {oB : ob} {os : ob} {op : ob} {ow : ob} {oe : ob} {oH : hst} {om : ob} {oL : (Nat → Int64)} {a1 : Int32} {y : ob × ob × hst × ob × (Nat → Int64)} (hst : l.stackTraces = false) (hF : F_case_52 oB os op ow oe oH om oL a1 = some y) (C : rx_C G k P9 M9 c9 cL_law RL 9 ret9 S9 A9 me9) (hN : rx_NC S9) (hX : va_X sc len xs S9 S9.heap) (hbl : sc < S9.heap.size) (hbA : ¬ k 0 ≤ sc) (h1 : vp_in (x4 + (1 : Int32)) len ∧ xs (x4 + (1 : Int32)).toNatClampNeg = a1) (hcl : cells + 3 ≤ 601024) (hsl : slots + 18 ≤ 7293034) (b_B : bB k b oB h) (b_s : bS k (b + 12) os h) (b_p : bP k (b + 21) (b + 12) op h) (b_w : bQ k (b + 21 + 10) ow h) (b_e : bQ k (b + 21 + 13) oe h) (b_H : bHH k (b + 69) (b + 12) oH h) (b_m : bM k (b + 204) om h) (b_L : bL k (b + 213) oL h) (KK : ∀ (hh : hp) (n1 : Nat), n ≤ n1 → bQ k (b + 21 + 10) y.1 hh → bQ k (b + 21 + 13) y.2.1 hh → bHH k (b + 69) (b + 12) y.2.2.1 hh → bM k (b + 204) y.2.2.2.1 hh → bL k (b + 213) y.2.2.2.2 hh → rx_fr [(b + 21 + 10, 3), (b + 21 + 13, 3), (b + 69, 130), (b + 204, 9), (b + 213, 1)] h hh → rx_W P9 l E9 room_1 S9 M9 A9 B9 me9 c9 Q9 G k 9 (cells + 3) (slots + 18) hh n1 3126 [(0, .ref sc), (1, .ref b), (2, .ref (b + 204)), (3, .ref (b + 213)), (4, .int x4)] []) : rx_W P9 l E9 room_1 S9 M9 A9 B9 me9 c9 Q9 G k 9 cells slots h n 2681 [(0, .ref sc), (1, .ref b), (2, .ref (b + 204)), (3, .ref (b + 213)), (4, .int x4)] [] := by
  have s_B_w : b + 1 ≤ b + 21 + 10 ∨ b + 21 + 10 + 3 ≤ b := by omega
  have s_B_e : b + 1 ≤ b + 21 + 13 ∨ b + 21 + 13 + 3 ≤ b := by omega
  have s_B_H : b + 1 ≤ b + 69 ∨ b + 69 + 130 ≤ b := by omega
  have s_B_L : b + 1 ≤ b + 213 ∨ b + 213 + 1 ≤ b := by omega
  have s_s_w : b + 12 + 9 ≤ b + 21 + 10 ∨ b + 21 + 10 + 3 ≤ b + 12 := by omega
  have s_s_e : b + 12 + 9 ≤ b + 21 + 13 ∨ b + 21 + 13 + 3 ≤ b + 12 := by omega
  have s_s_H : b + 12 + 9 ≤ b + 69 ∨ b + 69 + 130 ≤ b + 12 := by omega
  have s_s_L : b + 12 + 9 ≤ b + 213 ∨ b + 213 + 1 ≤ b + 12 := by omega
  have s_p_w : b + 21 + 10 ≤ b + 21 + 10 ∨ b + 21 + 10 + 3 ≤ b + 21 := by omega
  have s_p_e : b + 21 + 10 ≤ b + 21 + 13 ∨ b + 21 + 13 + 3 ≤ b + 21 := by omega
  have s_p_H : b + 21 + 10 ≤ b + 69 ∨ b + 69 + 130 ≤ b + 21 := by omega
  have s_p_L : b + 21 + 10 ≤ b + 213 ∨ b + 213 + 1 ≤ b + 21 := by omega
  have s_m_w : b + 204 + 9 ≤ b + 21 + 10 ∨ b + 21 + 10 + 3 ≤ b + 204 := by omega
  have s_m_e : b + 204 + 9 ≤ b + 21 + 13 ∨ b + 21 + 13 + 3 ≤ b + 204 := by omega
  have s_m_H : b + 204 + 9 ≤ b + 69 ∨ b + 69 + 130 ≤ b + 204 := by omega
  have s_m_L : b + 204 + 9 ≤ b + 213 ∨ b + 213 + 1 ≤ b + 204 := by omega
  have s_B_m : b + 1 ≤ b + 204 ∨ b + 204 + 9 ≤ b := by omega
  have s_s_m : b + 12 + 9 ≤ b + 204 ∨ b + 204 + 9 ≤ b + 12 := by omega
  have s_p_m : b + 21 + 10 ≤ b + 204 ∨ b + 204 + 9 ≤ b + 21 := by omega
  have s_w_m : b + 21 + 10 + 3 ≤ b + 204 ∨ b + 204 + 9 ≤ b + 21 + 10 := by omega
  have s_e_m : b + 21 + 13 + 3 ≤ b + 204 ∨ b + 204 + 9 ≤ b + 21 + 13 := by omega
  have s_H_m : b + 69 + 130 ≤ b + 204 ∨ b + 204 + 9 ≤ b + 69 := by omega
  have s_L_m : b + 213 + 1 ≤ b + 204 ∨ b + 204 + 9 ≤ b + 213 := by omega
  unfold F_case_52 at hF
  have fr : rx_fr [(b + 21 + 10, 3), (b + 21 + 13, 3), (b + 69, 130), (b + 204, 9), (b + 213, 1)] h h := rx_fr0
  refine rx_aload_n C dL_law_2681 1 rfl ?_
  refine rx_aload_n C dL_law_2682 0 rfl ?_
  refine rx_iload C dL_law_2683 4 rfl ?_
  refine rx_iconst C dL_law_2685 (1 : Int32) (by decide) ?_
  refine rx_iadd C dL_law_2686 ?_
  refine rx_sld C hX hbl hbA h1 dL_law_2687 ?_
  refine rx_aload_n C dL_law_2688 3 rfl ?_
  replace hF := rx_biE hF; obtain ⟨y1, e_y1, hF⟩ := hF
  refine rx_xci (rx_rSX C hN (w_L_quitQueue hst e_y1 b_B b_s b_p b_w b_e b_H b_L (by omega)) Y_L_quitQueue S_L_quitQueue m_L_326 ⟨⟨rfl, rfl⟩, ⟨(Nat.le_of_ble_eq_true rfl), (Nat.le_of_ble_eq_true rfl)⟩, ⟨by show _ ≤ 601024; omega, by show _ ≤ 7293034; omega⟩⟩ rfl rfl (Nat.le_of_ble_eq_true rfl) dL_law_2689) (fun E hh n1 hx => hx.elim) (fun r hh n hpp => ?_)
  obtain ⟨rfl, hn0, c_w, c_e, c_H, c_L, ff⟩ := hpp
  replace b_w : bQ k (b + 21 + 10) y1.2.1 hh := c_w
  clear c_w
  replace b_e : bQ k (b + 21 + 13) y1.2.2.1 hh := c_e
  clear c_e
  replace b_H : bHH k (b + 69) (b + 12) y1.2.2.2.1 hh := c_H
  clear c_H
  replace b_L : bL k (b + 213) y1.2.2.2.2 hh := c_L
  clear c_L
  replace ff : rx_fr [(b + 21 + 10, 3), (b + 21 + 13, 3), (b + 69, 130), (b + 213, 1)] _ hh := ff
  replace b_B := b_B.keep ff ⟨s_B_w, s_B_e, s_B_H, s_B_L, trivial⟩
  replace b_s := b_s.keep ff ⟨s_s_w, s_s_e, s_s_H, s_s_L, trivial⟩
  replace b_p := b_p.keep ff ⟨s_p_w, s_p_e, s_p_H, s_p_L, trivial⟩
  replace b_m := b_m.keep ff ⟨s_m_w, s_m_e, s_m_H, s_m_L, trivial⟩
  replace fr := rx_frt fr ff (fun a ha => ⟨ha.1, ha.2.1, ha.2.2.1, ha.2.2.2.2.1, trivial⟩)
  refine rx_istore C dL_law_2692 (by decide) [(5, .int y1.1), (0, .ref sc), (1, .ref b), (2, .ref (b + 204)), (3, .ref (b + 213)), (4, .int x4)] rfl ?_
  refine rx_aload_n C dL_law_2694 3 rfl ?_
  refine rx_aload_n C dL_law_2695 1 rfl ?_
  refine rx_iload C dL_law_2696 5 rfl ?_
  refine rx_iconst C dL_law_2698 (1 : Int32) (by decide) ?_
  refine rx_iadd C dL_law_2699 ?_
  refine rx_sld C hX hbl hbA h1 dL_law_2700 ?_
  replace hF := rx_biE hF; obtain ⟨y2, e_y2, hF⟩ := hF
  refine rx_ci (rx_rV C (w_X9_quitQueue e_y2 b_m) Y_X9_quitQueue V_X9_quitQueue m_L_328 (Or.inl ⟨_, _, _, _, b_m.1, rfl⟩) ⟨⟨rfl, rfl⟩, ⟨(Nat.le_of_ble_eq_true rfl), (Nat.le_of_ble_eq_true rfl)⟩, ⟨by show _ ≤ 601024; omega, by show _ ≤ 7293034; omega⟩⟩ rfl rfl (Nat.le_of_ble_eq_true rfl) dL_law_2701) (fun r hh n1 hpp => ?_)
  obtain ⟨rfl, hn, c_m, ff⟩ := hpp
  replace hn : n = n1 := Eq.symm hn
  subst hn
  replace b_m : bM k (b + 204) y2.2 hh := c_m
  clear c_m
  replace ff : rx_fr [(b + 204, 9)] _ hh := ff
  replace b_B := b_B.keep ff ⟨s_B_m, trivial⟩
  replace b_s := b_s.keep ff ⟨s_s_m, trivial⟩
  replace b_p := b_p.keep ff ⟨s_p_m, trivial⟩
  replace b_w := b_w.keep ff ⟨s_w_m, trivial⟩
  replace b_e := b_e.keep ff ⟨s_e_m, trivial⟩
  replace b_H := b_H.keep ff ⟨s_H_m, trivial⟩
  replace b_L := b_L.keep ff ⟨s_L_m, trivial⟩
  replace fr := rx_frt fr ff (fun a ha => ⟨ha.2.2.2.1, trivial⟩)
  refine rx_istore C dL_law_2704 (by decide) [(6, .int y2.1), (5, .int y1.1), (0, .ref sc), (1, .ref b), (2, .ref (b + 204)), (3, .ref (b + 213)), (4, .int x4)] rfl ?_
  refine rx_aload_n C dL_law_2706 4 rfl ?_
  replace hF := rx_biE hF; obtain ⟨y3, e_y3, hF⟩ := hF
  refine rx_ci (rx_rV C (w_X9_thrown e_y3 b_m) Y_X9_thrown V_X9_thrown m_L_148 (Or.inl ⟨_, _, _, _, b_m.1, rfl⟩) ⟨⟨rfl, rfl⟩, ⟨(Nat.le_of_ble_eq_true rfl), (Nat.le_of_ble_eq_true rfl)⟩, ⟨by show _ ≤ 601024; omega, by show _ ≤ 7293034; omega⟩⟩ rfl rfl (Nat.le_of_ble_eq_true rfl) dL_law_2707) (fun r hh n1 hpp => ?_)
  obtain ⟨rfl, hu⟩ := hpp
  cases hu
  refine rx_iload C dL_law_2710 1 rfl ?_
  refine rx_icmp_eq C dL_law_2712 2717 (by decide) (fun c4 => ?_) (fun c4 => ?_)
  · rw [if_pos c4] at hF
    refine rx_iload C dL_law_2717 1 rfl ?_
    refine rx_if_ne C dL_law_2719 2734 (by decide) (fun c5 => ?_) (fun c5 => ?_)
    · rw [if_neg c5] at hF
      refine rx_goto C dL_law_2734 3126 (by decide) ?_
      obtain rfl := Option.some.inj hF
      refine rx_sub [2, 3, 4, 5, 6] rfl ?_
      exact rx_wide (cells + 3) (slots + 18) (by omega) (by omega) (KK _ _ (hn0) b_w b_e b_H b_m b_L fr)
    · rw [if_pos c5] at hF
      refine rx_aload_n C dL_law_2722 5 rfl ?_
      refine rx_iconst C dL_law_2723 (0 : Int32) (by decide) ?_
      refine rx_ldL C dL_law_2724 b_L ?_
      refine rx_iload C dL_law_2725 0 rfl ?_
      refine rx_i2l C dL_law_2727 ?_
      refine rx_lcmp C dL_law_2728 ?_
      refine rx_if_eq C dL_law_2729 2734 (by decide) (fun c6 => ?_) (fun c6 => ?_)
      · rw [if_pos c6] at hF
        refine rx_goto C dL_law_2734 3126 (by decide) ?_
        obtain rfl := Option.some.inj hF
        refine rx_sub [2, 3, 4, 5, 6] rfl ?_
        exact rx_wide (cells + 3) (slots + 18) (by omega) (by omega) (KK _ _ (hn0) b_w b_e b_H b_m b_L fr)
      · rw [if_neg c6] at hF
        refine rx_iconst C dL_law_2732 (0 : Int32) (by decide) ?_
        cases hF
  · rw [if_neg c4] at hF
    refine rx_iconst C dL_law_2715 (0 : Int32) (by decide) ?_
    cases hF
def F_case_53 (oB : ob) (os : ob) (op : ob) (ow : ob) (oe : ob) (oH : hst) (om : ob) (oL : (Nat → Int64)) (a1 : Int32) (a2 : Int32) : Option (ob × hst × ob × (Nat → Int64)) := (F_L_setPride oB os op ow oe oH oL a1 a2).bind fun y1 => (F_X9_setPride om a1 a2).bind fun y2 => (F_X9_thrown y2.2).bind fun y3 => if y3 = y1.1 then (if y1.1 = (0 : Int32) then (if (lg_cmp ((y1.2.2.2 0)) y2.1.toInt64) = (0 : Int32) then (some (y1.2.1, y1.2.2.1, y2.2, y1.2.2.2)) else (none)) else (some (y1.2.1, y1.2.2.1, y2.2, y1.2.2.2))) else (none)
set_option maxRecDepth 100000 in
set_option maxHeartbeats 4000000 in
theorem lc_53 {b : Nat} {oB : ob} {os : ob} {op : ob} {ow : ob} {oe : ob} {oH : hst} {om : ob} {oL : (Nat → Int64)} {a1 : Int32} {a2 : Int32} {y : ob × hst × ob × (Nat → Int64)} (hst : l.stackTraces = false) (hF : F_case_53 oB os op ow oe oH om oL a1 a2 = some y) (C : rx_C G k P9 M9 c9 cL_law RL 9 ret9 S9 A9 me9) (hN : rx_NC S9) (hX : va_X sc len xs S9 S9.heap) (hbl : sc < S9.heap.size) (hbA : ¬ k 0 ≤ sc) (h1 : vp_in (x4 + (1 : Int32)) len ∧ xs (x4 + (1 : Int32)).toNatClampNeg = a1) (h2 : vp_in (x4 + (2 : Int32)) len ∧ xs (x4 + (2 : Int32)).toNatClampNeg = a2) (hcl : cells + 3 ≤ 601024) (hsl : slots + 18 ≤ 7293034) (b_B : bB k b oB h) (b_s : bS k (b + 12) os h) (b_p : bP k (b + 21) (b + 12) op h) (b_w : bQ k (b + 21 + 10) ow h) (b_e : bQ k (b + 21 + 13) oe h) (b_H : bHH k (b + 69) (b + 12) oH h) (b_m : bM k (b + 204) om h) (b_L : bL k (b + 213) oL h) (KK : ∀ (hh : hp) (n1 : Nat), n ≤ n1 → bP k (b + 21) (b + 12) y.1 hh → bHH k (b + 69) (b + 12) y.2.1 hh → bM k (b + 204) y.2.2.1 hh → bL k (b + 213) y.2.2.2 hh → rx_fr [(b + 21, 10), (b + 69, 130), (b + 204, 9), (b + 213, 1)] h hh → rx_W P9 l E9 room_1 S9 M9 A9 B9 me9 c9 Q9 G k 9 (cells + 3) (slots + 18) hh n1 3126 [(0, .ref sc), (1, .ref b), (2, .ref (b + 204)), (3, .ref (b + 213)), (4, .int x4)] []) : rx_W P9 l E9 room_1 S9 M9 A9 B9 me9 c9 Q9 G k 9 cells slots h n 2737 [(0, .ref sc), (1, .ref b), (2, .ref (b + 204)), (3, .ref (b + 213)), (4, .int x4)] [] := by
  have s_B_p : b + 1 ≤ b + 21 ∨ b + 21 + 10 ≤ b := by omega
  have s_B_H : b + 1 ≤ b + 69 ∨ b + 69 + 130 ≤ b := by omega
  have s_B_L : b + 1 ≤ b + 213 ∨ b + 213 + 1 ≤ b := by omega
  have s_s_p : b + 12 + 9 ≤ b + 21 ∨ b + 21 + 10 ≤ b + 12 := by omega
  have s_s_H : b + 12 + 9 ≤ b + 69 ∨ b + 69 + 130 ≤ b + 12 := by omega
  have s_s_L : b + 12 + 9 ≤ b + 213 ∨ b + 213 + 1 ≤ b + 12 := by omega
  have s_w_p : b + 21 + 10 + 3 ≤ b + 21 ∨ b + 21 + 10 ≤ b + 21 + 10 := by omega
  have s_w_H : b + 21 + 10 + 3 ≤ b + 69 ∨ b + 69 + 130 ≤ b + 21 + 10 := by omega
  have s_w_L : b + 21 + 10 + 3 ≤ b + 213 ∨ b + 213 + 1 ≤ b + 21 + 10 := by omega
  have s_e_p : b + 21 + 13 + 3 ≤ b + 21 ∨ b + 21 + 10 ≤ b + 21 + 13 := by omega
  have s_e_H : b + 21 + 13 + 3 ≤ b + 69 ∨ b + 69 + 130 ≤ b + 21 + 13 := by omega
  have s_e_L : b + 21 + 13 + 3 ≤ b + 213 ∨ b + 213 + 1 ≤ b + 21 + 13 := by omega
  have s_m_p : b + 204 + 9 ≤ b + 21 ∨ b + 21 + 10 ≤ b + 204 := by omega
  have s_m_H : b + 204 + 9 ≤ b + 69 ∨ b + 69 + 130 ≤ b + 204 := by omega
  have s_m_L : b + 204 + 9 ≤ b + 213 ∨ b + 213 + 1 ≤ b + 204 := by omega
  have s_B_m : b + 1 ≤ b + 204 ∨ b + 204 + 9 ≤ b := by omega
  have s_s_m : b + 12 + 9 ≤ b + 204 ∨ b + 204 + 9 ≤ b + 12 := by omega
  have s_p_m : b + 21 + 10 ≤ b + 204 ∨ b + 204 + 9 ≤ b + 21 := by omega
  have s_w_m : b + 21 + 10 + 3 ≤ b + 204 ∨ b + 204 + 9 ≤ b + 21 + 10 := by omega
  have s_e_m : b + 21 + 13 + 3 ≤ b + 204 ∨ b + 204 + 9 ≤ b + 21 + 13 := by omega
  have s_H_m : b + 69 + 130 ≤ b + 204 ∨ b + 204 + 9 ≤ b + 69 := by omega
  have s_L_m : b + 213 + 1 ≤ b + 204 ∨ b + 204 + 9 ≤ b + 213 := by omega
  unfold F_case_53 at hF
  have fr : rx_fr [(b + 21, 10), (b + 69, 130), (b + 204, 9), (b + 213, 1)] h h := rx_fr0
  refine rx_aload_n C dL_law_2737 1 rfl ?_
  refine rx_aload_n C dL_law_2738 0 rfl ?_
  refine rx_iload C dL_law_2739 4 rfl ?_
  refine rx_iconst C dL_law_2741 (1 : Int32) (by decide) ?_
  refine rx_iadd C dL_law_2742 ?_
  refine rx_sld C hX hbl hbA h1 dL_law_2743 ?_
  refine rx_aload_n C dL_law_2744 0 rfl ?_
  refine rx_iload C dL_law_2745 4 rfl ?_
  refine rx_iconst C dL_law_2747 (2 : Int32) (by decide) ?_
  refine rx_iadd C dL_law_2748 ?_
  refine rx_sld C hX hbl hbA h2 dL_law_2749 ?_
  refine rx_aload_n C dL_law_2750 3 rfl ?_
  replace hF := rx_biE hF; obtain ⟨y1, e_y1, hF⟩ := hF
  refine rx_xci (rx_rSX C hN (w_L_setPride hst e_y1 b_B b_s b_p b_w b_e b_H b_L (by omega)) Y_L_setPride S_L_setPride m_L_329 ⟨⟨rfl, rfl⟩, ⟨(Nat.le_of_ble_eq_true rfl), (Nat.le_of_ble_eq_true rfl)⟩, ⟨by show _ ≤ 601024; omega, by show _ ≤ 7293034; omega⟩⟩ rfl rfl (Nat.le_of_ble_eq_true rfl) dL_law_2751) (fun E hh n1 hx => hx.elim) (fun r hh n hpp => ?_)
  obtain ⟨rfl, hn0, c_p, c_H, c_L, ff⟩ := hpp
  replace b_p : bP k (b + 21) (b + 12) y1.2.1 hh := c_p
  clear c_p
  replace b_H : bHH k (b + 69) (b + 12) y1.2.2.1 hh := c_H
  clear c_H
  replace b_L : bL k (b + 213) y1.2.2.2 hh := c_L
  clear c_L
  replace ff : rx_fr [(b + 21, 10), (b + 69, 130), (b + 213, 1)] _ hh := ff
  replace b_B := b_B.keep ff ⟨s_B_p, s_B_H, s_B_L, trivial⟩
  replace b_s := b_s.keep ff ⟨s_s_p, s_s_H, s_s_L, trivial⟩
  replace b_w := b_w.keep ff ⟨s_w_p, s_w_H, s_w_L, trivial⟩
  replace b_e := b_e.keep ff ⟨s_e_p, s_e_H, s_e_L, trivial⟩
  replace b_m := b_m.keep ff ⟨s_m_p, s_m_H, s_m_L, trivial⟩
  replace fr := rx_frt fr ff (fun a ha => ⟨ha.1, ha.2.1, ha.2.2.2.1, trivial⟩)
  refine rx_istore C dL_law_2754 (by decide) [(5, .int y1.1), (0, .ref sc), (1, .ref b), (2, .ref (b + 204)), (3, .ref (b + 213)), (4, .int x4)] rfl ?_
  refine rx_aload_n C dL_law_2756 3 rfl ?_
  refine rx_aload_n C dL_law_2757 1 rfl ?_
  refine rx_iload C dL_law_2758 5 rfl ?_
  refine rx_iconst C dL_law_2760 (1 : Int32) (by decide) ?_
  refine rx_iadd C dL_law_2761 ?_
  refine rx_sld C hX hbl hbA h1 dL_law_2762 ?_
  refine rx_aload_n C dL_law_2763 1 rfl ?_
  refine rx_iload C dL_law_2764 5 rfl ?_
  refine rx_iconst C dL_law_2766 (2 : Int32) (by decide) ?_
  refine rx_iadd C dL_law_2767 ?_
  refine rx_sld C hX hbl hbA h2 dL_law_2768 ?_
  replace hF := rx_biE hF; obtain ⟨y2, e_y2, hF⟩ := hF
  refine rx_ci (rx_rV C (w_X9_setPride e_y2 b_m) Y_X9_setPride V_X9_setPride m_L_331 (Or.inl ⟨_, _, _, _, b_m.1, rfl⟩) ⟨⟨rfl, rfl⟩, ⟨(Nat.le_of_ble_eq_true rfl), (Nat.le_of_ble_eq_true rfl)⟩, ⟨by show _ ≤ 601024; omega, by show _ ≤ 7293034; omega⟩⟩ rfl rfl (Nat.le_of_ble_eq_true rfl) dL_law_2769) (fun r hh n1 hpp => ?_)
  obtain ⟨rfl, hn, c_m, ff⟩ := hpp
  replace hn : n = n1 := Eq.symm hn
  subst hn
  replace b_m : bM k (b + 204) y2.2 hh := c_m
  clear c_m
  replace ff : rx_fr [(b + 204, 9)] _ hh := ff
  replace b_B := b_B.keep ff ⟨s_B_m, trivial⟩
  replace b_s := b_s.keep ff ⟨s_s_m, trivial⟩
  replace b_p := b_p.keep ff ⟨s_p_m, trivial⟩
  replace b_w := b_w.keep ff ⟨s_w_m, trivial⟩
  replace b_e := b_e.keep ff ⟨s_e_m, trivial⟩
  replace b_H := b_H.keep ff ⟨s_H_m, trivial⟩
  replace b_L := b_L.keep ff ⟨s_L_m, trivial⟩
  replace fr := rx_frt fr ff (fun a ha => ⟨ha.2.2.1, trivial⟩)
  refine rx_istore C dL_law_2772 (by decide) [(6, .int y2.1), (5, .int y1.1), (0, .ref sc), (1, .ref b), (2, .ref (b + 204)), (3, .ref (b + 213)), (4, .int x4)] rfl ?_
  refine rx_aload_n C dL_law_2774 4 rfl ?_
  replace hF := rx_biE hF; obtain ⟨y3, e_y3, hF⟩ := hF
  refine rx_ci (rx_rV C (w_X9_thrown e_y3 b_m) Y_X9_thrown V_X9_thrown m_L_148 (Or.inl ⟨_, _, _, _, b_m.1, rfl⟩) ⟨⟨rfl, rfl⟩, ⟨(Nat.le_of_ble_eq_true rfl), (Nat.le_of_ble_eq_true rfl)⟩, ⟨by show _ ≤ 601024; omega, by show _ ≤ 7293034; omega⟩⟩ rfl rfl (Nat.le_of_ble_eq_true rfl) dL_law_2775) (fun r hh n1 hpp => ?_)
  obtain ⟨rfl, hu⟩ := hpp
  cases hu
  refine rx_iload C dL_law_2778 1 rfl ?_
  refine rx_icmp_eq C dL_law_2780 2785 (by decide) (fun c4 => ?_) (fun c4 => ?_)
  · rw [if_pos c4] at hF
    refine rx_iload C dL_law_2785 1 rfl ?_
    refine rx_if_ne C dL_law_2787 2802 (by decide) (fun c5 => ?_) (fun c5 => ?_)
    · rw [if_neg c5] at hF
      refine rx_goto C dL_law_2802 3126 (by decide) ?_
      obtain rfl := Option.some.inj hF
      refine rx_sub [2, 3, 4, 5, 6] rfl ?_
      exact rx_wide (cells + 3) (slots + 18) (by omega) (by omega) (KK _ _ (hn0) b_p b_H b_m b_L fr)
    · rw [if_pos c5] at hF
      refine rx_aload_n C dL_law_2790 5 rfl ?_
      refine rx_iconst C dL_law_2791 (0 : Int32) (by decide) ?_
      refine rx_ldL C dL_law_2792 b_L ?_
      refine rx_iload C dL_law_2793 0 rfl ?_
      refine rx_i2l C dL_law_2795 ?_
      refine rx_lcmp C dL_law_2796 ?_
      refine rx_if_eq C dL_law_2797 2802 (by decide) (fun c6 => ?_) (fun c6 => ?_)
      · rw [if_pos c6] at hF
        refine rx_goto C dL_law_2802 3126 (by decide) ?_
        obtain rfl := Option.some.inj hF
        refine rx_sub [2, 3, 4, 5, 6] rfl ?_
        exact rx_wide (cells + 3) (slots + 18) (by omega) (by omega) (KK _ _ (hn0) b_p b_H b_m b_L fr)
      · rw [if_neg c6] at hF
        refine rx_iconst C dL_law_2800 (0 : Int32) (by decide) ?_
        cases hF
  · rw [if_neg c4] at hF
    refine rx_iconst C dL_law_2783 (0 : Int32) (by decide) ?_
    cases hF
def F_case_54 (oB : ob) (os : ob) (op : ob) (ow : ob) (oe : ob) (oH : hst) (om : ob) (oL : (Nat → Int64)) (a1 : Int32) : Option (ob × ob × ob × hst × ob × (Nat → Int64)) := (F_L_passTurns oB os op ow oe oH oL a1).bind fun y1 => (F_X9_passTurns om a1).bind fun y2 => (F_X9_thrown y2.2).bind fun y3 => if y3 = y1.1 then (if y1.1 = (0 : Int32) then (if (lg_cmp ((y1.2.2.2.2.2 0)) y2.1.toInt64) = (0 : Int32) then (some (y1.2.1, y1.2.2.1, y1.2.2.2.1, y1.2.2.2.2.1, y2.2, y1.2.2.2.2.2)) else (none)) else (some (y1.2.1, y1.2.2.1, y1.2.2.2.1, y1.2.2.2.2.1, y2.2, y1.2.2.2.2.2))) else (none)
set_option maxRecDepth 100000 in
set_option maxHeartbeats 4000000 in
theorem lc_54 {b : Nat} {oB : ob} {os : ob} {op : ob} {ow : ob} {oe : ob} {oH : hst} {om : ob} {oL : (Nat → Int64)} {a1 : Int32} {y : ob × ob × ob × hst × ob × (Nat → Int64)} (hst : l.stackTraces = false) (hF : F_case_54 oB os op ow oe oH om oL a1 = some y) (C : rx_C G k P9 M9 c9 cL_law RL 9 ret9 S9 A9 me9) (hN : rx_NC S9) (hX : va_X sc len xs S9 S9.heap) (hbl : sc < S9.heap.size) (hbA : ¬ k 0 ≤ sc) (h1 : vp_in (x4 + (1 : Int32)) len ∧ xs (x4 + (1 : Int32)).toNatClampNeg = a1) (hcl : cells + 3 ≤ 601024) (hsl : slots + 18 ≤ 7293034) (b_B : bB k b oB h) (b_s : bS k (b + 12) os h) (b_p : bP k (b + 21) (b + 12) op h) (b_w : bQ k (b + 21 + 10) ow h) (b_e : bQ k (b + 21 + 13) oe h) (b_H : bHH k (b + 69) (b + 12) oH h) (b_m : bM k (b + 204) om h) (b_L : bL k (b + 213) oL h) (KK : ∀ (hh : hp) (n1 : Nat), n ≤ n1 → bP k (b + 21) (b + 12) y.1 hh → bQ k (b + 21 + 10) y.2.1 hh → bQ k (b + 21 + 13) y.2.2.1 hh → bHH k (b + 69) (b + 12) y.2.2.2.1 hh → bM k (b + 204) y.2.2.2.2.1 hh → bL k (b + 213) y.2.2.2.2.2 hh → rx_fr [(b + 21, 10), (b + 21 + 10, 3), (b + 21 + 13, 3), (b + 69, 130), (b + 204, 9), (b + 213, 1)] h hh → rx_W P9 l E9 room_1 S9 M9 A9 B9 me9 c9 Q9 G k 9 (cells + 3) (slots + 18) hh n1 3126 [(0, .ref sc), (1, .ref b), (2, .ref (b + 204)), (3, .ref (b + 213)), (4, .int x4)] []) : rx_W P9 l E9 room_1 S9 M9 A9 B9 me9 c9 Q9 G k 9 cells slots h n 2805 [(0, .ref sc), (1, .ref b), (2, .ref (b + 204)), (3, .ref (b + 213)), (4, .int x4)] [] := by
  have s_B_p : b + 1 ≤ b + 21 ∨ b + 21 + 10 ≤ b := by omega
  have s_B_w : b + 1 ≤ b + 21 + 10 ∨ b + 21 + 10 + 3 ≤ b := by omega
  have s_B_e : b + 1 ≤ b + 21 + 13 ∨ b + 21 + 13 + 3 ≤ b := by omega
  have s_B_H : b + 1 ≤ b + 69 ∨ b + 69 + 130 ≤ b := by omega
  have s_B_L : b + 1 ≤ b + 213 ∨ b + 213 + 1 ≤ b := by omega
  have s_s_p : b + 12 + 9 ≤ b + 21 ∨ b + 21 + 10 ≤ b + 12 := by omega
  have s_s_w : b + 12 + 9 ≤ b + 21 + 10 ∨ b + 21 + 10 + 3 ≤ b + 12 := by omega
  have s_s_e : b + 12 + 9 ≤ b + 21 + 13 ∨ b + 21 + 13 + 3 ≤ b + 12 := by omega
  have s_s_H : b + 12 + 9 ≤ b + 69 ∨ b + 69 + 130 ≤ b + 12 := by omega
  have s_s_L : b + 12 + 9 ≤ b + 213 ∨ b + 213 + 1 ≤ b + 12 := by omega
  have s_m_p : b + 204 + 9 ≤ b + 21 ∨ b + 21 + 10 ≤ b + 204 := by omega
  have s_m_w : b + 204 + 9 ≤ b + 21 + 10 ∨ b + 21 + 10 + 3 ≤ b + 204 := by omega
  have s_m_e : b + 204 + 9 ≤ b + 21 + 13 ∨ b + 21 + 13 + 3 ≤ b + 204 := by omega
  have s_m_H : b + 204 + 9 ≤ b + 69 ∨ b + 69 + 130 ≤ b + 204 := by omega
  have s_m_L : b + 204 + 9 ≤ b + 213 ∨ b + 213 + 1 ≤ b + 204 := by omega
  have s_B_m : b + 1 ≤ b + 204 ∨ b + 204 + 9 ≤ b := by omega
  have s_s_m : b + 12 + 9 ≤ b + 204 ∨ b + 204 + 9 ≤ b + 12 := by omega
  have s_p_m : b + 21 + 10 ≤ b + 204 ∨ b + 204 + 9 ≤ b + 21 := by omega
  have s_w_m : b + 21 + 10 + 3 ≤ b + 204 ∨ b + 204 + 9 ≤ b + 21 + 10 := by omega
  have s_e_m : b + 21 + 13 + 3 ≤ b + 204 ∨ b + 204 + 9 ≤ b + 21 + 13 := by omega
  have s_H_m : b + 69 + 130 ≤ b + 204 ∨ b + 204 + 9 ≤ b + 69 := by omega
  have s_L_m : b + 213 + 1 ≤ b + 204 ∨ b + 204 + 9 ≤ b + 213 := by omega
  unfold F_case_54 at hF
  have fr : rx_fr [(b + 21, 10), (b + 21 + 10, 3), (b + 21 + 13, 3), (b + 69, 130), (b + 204, 9), (b + 213, 1)] h h := rx_fr0
  refine rx_aload_n C dL_law_2805 1 rfl ?_
  refine rx_aload_n C dL_law_2806 0 rfl ?_
  refine rx_iload C dL_law_2807 4 rfl ?_
  refine rx_iconst C dL_law_2809 (1 : Int32) (by decide) ?_
  refine rx_iadd C dL_law_2810 ?_
  refine rx_sld C hX hbl hbA h1 dL_law_2811 ?_
  refine rx_aload_n C dL_law_2812 3 rfl ?_
  replace hF := rx_biE hF; obtain ⟨y1, e_y1, hF⟩ := hF
  refine rx_xci (rx_rSX C hN (w_L_passTurns hst e_y1 b_B b_s b_p b_w b_e b_H b_L (by omega)) Y_L_passTurns S_L_passTurns m_L_332 ⟨⟨rfl, rfl⟩, ⟨(Nat.le_of_ble_eq_true rfl), (Nat.le_of_ble_eq_true rfl)⟩, ⟨by show _ ≤ 601024; omega, by show _ ≤ 7293034; omega⟩⟩ rfl rfl (Nat.le_of_ble_eq_true rfl) dL_law_2813) (fun E hh n1 hx => hx.elim) (fun r hh n hpp => ?_)
  obtain ⟨rfl, hn0, c_p, c_w, c_e, c_H, c_L, ff⟩ := hpp
  replace b_p : bP k (b + 21) (b + 12) y1.2.1 hh := c_p
  clear c_p
  replace b_w : bQ k (b + 21 + 10) y1.2.2.1 hh := c_w
  clear c_w
  replace b_e : bQ k (b + 21 + 13) y1.2.2.2.1 hh := c_e
  clear c_e
  replace b_H : bHH k (b + 69) (b + 12) y1.2.2.2.2.1 hh := c_H
  clear c_H
  replace b_L : bL k (b + 213) y1.2.2.2.2.2 hh := c_L
  clear c_L
  replace ff : rx_fr [(b + 21, 10), (b + 21 + 10, 3), (b + 21 + 13, 3), (b + 69, 130), (b + 213, 1)] _ hh := ff
  replace b_B := b_B.keep ff ⟨s_B_p, s_B_w, s_B_e, s_B_H, s_B_L, trivial⟩
  replace b_s := b_s.keep ff ⟨s_s_p, s_s_w, s_s_e, s_s_H, s_s_L, trivial⟩
  replace b_m := b_m.keep ff ⟨s_m_p, s_m_w, s_m_e, s_m_H, s_m_L, trivial⟩
  replace fr := rx_frt fr ff (fun a ha => ⟨ha.1, ha.2.1, ha.2.2.1, ha.2.2.2.1, ha.2.2.2.2.2.1, trivial⟩)
  refine rx_istore C dL_law_2816 (by decide) [(5, .int y1.1), (0, .ref sc), (1, .ref b), (2, .ref (b + 204)), (3, .ref (b + 213)), (4, .int x4)] rfl ?_
  refine rx_aload_n C dL_law_2818 3 rfl ?_
  refine rx_aload_n C dL_law_2819 1 rfl ?_
  refine rx_iload C dL_law_2820 5 rfl ?_
  refine rx_iconst C dL_law_2822 (1 : Int32) (by decide) ?_
  refine rx_iadd C dL_law_2823 ?_
  refine rx_sld C hX hbl hbA h1 dL_law_2824 ?_
  replace hF := rx_biE hF; obtain ⟨y2, e_y2, hF⟩ := hF
  refine rx_ci (rx_rV C (w_X9_passTurns e_y2 b_m) Y_X9_passTurns V_X9_passTurns m_L_334 (Or.inl ⟨_, _, _, _, b_m.1, rfl⟩) ⟨⟨rfl, rfl⟩, ⟨(Nat.le_of_ble_eq_true rfl), (Nat.le_of_ble_eq_true rfl)⟩, ⟨by show _ ≤ 601024; omega, by show _ ≤ 7293034; omega⟩⟩ rfl rfl (Nat.le_of_ble_eq_true rfl) dL_law_2825) (fun r hh n1 hpp => ?_)
  obtain ⟨rfl, hn, c_m, ff⟩ := hpp
  replace hn : n = n1 := Eq.symm hn
  subst hn
  replace b_m : bM k (b + 204) y2.2 hh := c_m
  clear c_m
  replace ff : rx_fr [(b + 204, 9)] _ hh := ff
  replace b_B := b_B.keep ff ⟨s_B_m, trivial⟩
  replace b_s := b_s.keep ff ⟨s_s_m, trivial⟩
  replace b_p := b_p.keep ff ⟨s_p_m, trivial⟩
  replace b_w := b_w.keep ff ⟨s_w_m, trivial⟩
  replace b_e := b_e.keep ff ⟨s_e_m, trivial⟩
  replace b_H := b_H.keep ff ⟨s_H_m, trivial⟩
  replace b_L := b_L.keep ff ⟨s_L_m, trivial⟩
  replace fr := rx_frt fr ff (fun a ha => ⟨ha.2.2.2.2.1, trivial⟩)
  refine rx_istore C dL_law_2828 (by decide) [(6, .int y2.1), (5, .int y1.1), (0, .ref sc), (1, .ref b), (2, .ref (b + 204)), (3, .ref (b + 213)), (4, .int x4)] rfl ?_
  refine rx_aload_n C dL_law_2830 4 rfl ?_
  replace hF := rx_biE hF; obtain ⟨y3, e_y3, hF⟩ := hF
  refine rx_ci (rx_rV C (w_X9_thrown e_y3 b_m) Y_X9_thrown V_X9_thrown m_L_148 (Or.inl ⟨_, _, _, _, b_m.1, rfl⟩) ⟨⟨rfl, rfl⟩, ⟨(Nat.le_of_ble_eq_true rfl), (Nat.le_of_ble_eq_true rfl)⟩, ⟨by show _ ≤ 601024; omega, by show _ ≤ 7293034; omega⟩⟩ rfl rfl (Nat.le_of_ble_eq_true rfl) dL_law_2831) (fun r hh n1 hpp => ?_)
  obtain ⟨rfl, hu⟩ := hpp
  cases hu
  refine rx_iload C dL_law_2834 1 rfl ?_
  refine rx_icmp_eq C dL_law_2836 2841 (by decide) (fun c4 => ?_) (fun c4 => ?_)
  · rw [if_pos c4] at hF
    refine rx_iload C dL_law_2841 1 rfl ?_
    refine rx_if_ne C dL_law_2843 2858 (by decide) (fun c5 => ?_) (fun c5 => ?_)
    · rw [if_neg c5] at hF
      refine rx_goto C dL_law_2858 3126 (by decide) ?_
      obtain rfl := Option.some.inj hF
      refine rx_sub [2, 3, 4, 5, 6] rfl ?_
      exact rx_wide (cells + 3) (slots + 18) (by omega) (by omega) (KK _ _ (hn0) b_p b_w b_e b_H b_m b_L fr)
    · rw [if_pos c5] at hF
      refine rx_aload_n C dL_law_2846 5 rfl ?_
      refine rx_iconst C dL_law_2847 (0 : Int32) (by decide) ?_
      refine rx_ldL C dL_law_2848 b_L ?_
      refine rx_iload C dL_law_2849 0 rfl ?_
      refine rx_i2l C dL_law_2851 ?_
      refine rx_lcmp C dL_law_2852 ?_
      refine rx_if_eq C dL_law_2853 2858 (by decide) (fun c6 => ?_) (fun c6 => ?_)
      · rw [if_pos c6] at hF
        refine rx_goto C dL_law_2858 3126 (by decide) ?_
        obtain rfl := Option.some.inj hF
        refine rx_sub [2, 3, 4, 5, 6] rfl ?_
        exact rx_wide (cells + 3) (slots + 18) (by omega) (by omega) (KK _ _ (hn0) b_p b_w b_e b_H b_m b_L fr)
      · rw [if_neg c6] at hF
        refine rx_iconst C dL_law_2856 (0 : Int32) (by decide) ?_
        cases hF
  · rw [if_neg c4] at hF
    refine rx_iconst C dL_law_2839 (0 : Int32) (by decide) ?_
    cases hF
def F_case_55 (oB : ob) (ot : ob) (os : ob) (op : ob) (ow : ob) (oe : ob) (oH : hst) (oc : obv) (om : ob) (oL : (Nat → Int64)) (a1 : Int32) : Option (ob × ob × ob × ob × hst × obv × ob × (Nat → Int64)) := (F_L_runScript oB ot os op ow oe oH oc oL a1).bind fun y1 => (F_X9_runScript om a1).bind fun y2 => (F_X9_thrown y2.2).bind fun y3 => if y3 = y1.1 then (if y1.1 = (0 : Int32) then (if (lg_cmp ((y1.2.2.2.2.2.2.2 0)) y2.1.toInt64) = (0 : Int32) then (some (y1.2.1, y1.2.2.1, y1.2.2.2.1, y1.2.2.2.2.1, y1.2.2.2.2.2.1, y1.2.2.2.2.2.2.1, y2.2, y1.2.2.2.2.2.2.2)) else (none)) else (some (y1.2.1, y1.2.2.1, y1.2.2.2.1, y1.2.2.2.2.1, y1.2.2.2.2.2.1, y1.2.2.2.2.2.2.1, y2.2, y1.2.2.2.2.2.2.2))) else (none)
set_option maxRecDepth 100000 in
set_option maxHeartbeats 4000000 in
theorem lc_55 {b : Nat} {oB : ob} {ot : ob} {os : ob} {op : ob} {ow : ob} {oe : ob} {oH : hst} {oc : obv} {om : ob} {oL : (Nat → Int64)} {a1 : Int32} {y : ob × ob × ob × ob × hst × obv × ob × (Nat → Int64)} (hst : l.stackTraces = false) (hF : F_case_55 oB ot os op ow oe oH oc om oL a1 = some y) (C : rx_C G k P9 M9 c9 cL_law RL 9 ret9 S9 A9 me9) (hN : rx_NC S9) (hX : va_X sc len xs S9 S9.heap) (hbl : sc < S9.heap.size) (hbA : ¬ k 0 ≤ sc) (h1 : vp_in (x4 + (1 : Int32)) len ∧ xs (x4 + (1 : Int32)).toNatClampNeg = a1) (hcl : cells + 3 ≤ 601024) (hsl : slots + 18 ≤ 7293034) (b_B : bB k b oB h) (b_t : bT k (b + 1) ot h) (b_s : bS k (b + 12) os h) (b_p : bP k (b + 21) (b + 12) op h) (b_w : bQ k (b + 21 + 10) ow h) (b_e : bQ k (b + 21 + 13) oe h) (b_H : bHH k (b + 69) (b + 12) oH h) (b_c : bC k (b + 199) oc h) (b_m : bM k (b + 204) om h) (b_L : bL k (b + 213) oL h) (KK : ∀ (hh : hp) (n1 : Nat), n ≤ n1 → bT k (b + 1) y.1 hh → bP k (b + 21) (b + 12) y.2.1 hh → bQ k (b + 21 + 10) y.2.2.1 hh → bQ k (b + 21 + 13) y.2.2.2.1 hh → bHH k (b + 69) (b + 12) y.2.2.2.2.1 hh → bC k (b + 199) y.2.2.2.2.2.1 hh → bM k (b + 204) y.2.2.2.2.2.2.1 hh → bL k (b + 213) y.2.2.2.2.2.2.2 hh → rx_fr [(b + 1, 2), (b + 21, 10), (b + 21 + 10, 3), (b + 21 + 13, 3), (b + 69, 130), (b + 199, 4), (b + 204, 9), (b + 213, 1)] h hh → rx_W P9 l E9 room_1 S9 M9 A9 B9 me9 c9 Q9 G k 9 (cells + 3) (slots + 18) hh n1 3126 [(0, .ref sc), (1, .ref b), (2, .ref (b + 204)), (3, .ref (b + 213)), (4, .int x4)] []) : rx_W P9 l E9 room_1 S9 M9 A9 B9 me9 c9 Q9 G k 9 cells slots h n 2861 [(0, .ref sc), (1, .ref b), (2, .ref (b + 204)), (3, .ref (b + 213)), (4, .int x4)] [] := by
  have s_B_t : b + 1 ≤ b + 1 ∨ b + 1 + 2 ≤ b := by omega
  have s_B_p : b + 1 ≤ b + 21 ∨ b + 21 + 10 ≤ b := by omega
  have s_B_w : b + 1 ≤ b + 21 + 10 ∨ b + 21 + 10 + 3 ≤ b := by omega
  have s_B_e : b + 1 ≤ b + 21 + 13 ∨ b + 21 + 13 + 3 ≤ b := by omega
  have s_B_H : b + 1 ≤ b + 69 ∨ b + 69 + 130 ≤ b := by omega
  have s_B_c : b + 1 ≤ b + 199 ∨ b + 199 + 4 ≤ b := by omega
  have s_B_L : b + 1 ≤ b + 213 ∨ b + 213 + 1 ≤ b := by omega
  have s_s_t : b + 12 + 9 ≤ b + 1 ∨ b + 1 + 2 ≤ b + 12 := by omega
  have s_s_p : b + 12 + 9 ≤ b + 21 ∨ b + 21 + 10 ≤ b + 12 := by omega
  have s_s_w : b + 12 + 9 ≤ b + 21 + 10 ∨ b + 21 + 10 + 3 ≤ b + 12 := by omega
  have s_s_e : b + 12 + 9 ≤ b + 21 + 13 ∨ b + 21 + 13 + 3 ≤ b + 12 := by omega
  have s_s_H : b + 12 + 9 ≤ b + 69 ∨ b + 69 + 130 ≤ b + 12 := by omega
  have s_s_c : b + 12 + 9 ≤ b + 199 ∨ b + 199 + 4 ≤ b + 12 := by omega
  have s_s_L : b + 12 + 9 ≤ b + 213 ∨ b + 213 + 1 ≤ b + 12 := by omega
  have s_m_t : b + 204 + 9 ≤ b + 1 ∨ b + 1 + 2 ≤ b + 204 := by omega
  have s_m_p : b + 204 + 9 ≤ b + 21 ∨ b + 21 + 10 ≤ b + 204 := by omega
  have s_m_w : b + 204 + 9 ≤ b + 21 + 10 ∨ b + 21 + 10 + 3 ≤ b + 204 := by omega
  have s_m_e : b + 204 + 9 ≤ b + 21 + 13 ∨ b + 21 + 13 + 3 ≤ b + 204 := by omega
  have s_m_H : b + 204 + 9 ≤ b + 69 ∨ b + 69 + 130 ≤ b + 204 := by omega
  have s_m_c : b + 204 + 9 ≤ b + 199 ∨ b + 199 + 4 ≤ b + 204 := by omega
  have s_m_L : b + 204 + 9 ≤ b + 213 ∨ b + 213 + 1 ≤ b + 204 := by omega
  have s_B_m : b + 1 ≤ b + 204 ∨ b + 204 + 9 ≤ b := by omega
  have s_t_m : b + 1 + 2 ≤ b + 204 ∨ b + 204 + 9 ≤ b + 1 := by omega
  have s_s_m : b + 12 + 9 ≤ b + 204 ∨ b + 204 + 9 ≤ b + 12 := by omega
  have s_p_m : b + 21 + 10 ≤ b + 204 ∨ b + 204 + 9 ≤ b + 21 := by omega
  have s_w_m : b + 21 + 10 + 3 ≤ b + 204 ∨ b + 204 + 9 ≤ b + 21 + 10 := by omega
  have s_e_m : b + 21 + 13 + 3 ≤ b + 204 ∨ b + 204 + 9 ≤ b + 21 + 13 := by omega
  have s_H_m : b + 69 + 130 ≤ b + 204 ∨ b + 204 + 9 ≤ b + 69 := by omega
  have s_c_m : b + 199 + 4 ≤ b + 204 ∨ b + 204 + 9 ≤ b + 199 := by omega
  have s_L_m : b + 213 + 1 ≤ b + 204 ∨ b + 204 + 9 ≤ b + 213 := by omega
  unfold F_case_55 at hF
  have fr : rx_fr [(b + 1, 2), (b + 21, 10), (b + 21 + 10, 3), (b + 21 + 13, 3), (b + 69, 130), (b + 199, 4), (b + 204, 9), (b + 213, 1)] h h := rx_fr0
  refine rx_aload_n C dL_law_2861 1 rfl ?_
  refine rx_aload_n C dL_law_2862 0 rfl ?_
  refine rx_iload C dL_law_2863 4 rfl ?_
  refine rx_iconst C dL_law_2865 (1 : Int32) (by decide) ?_
  refine rx_iadd C dL_law_2866 ?_
  refine rx_sld C hX hbl hbA h1 dL_law_2867 ?_
  refine rx_aload_n C dL_law_2868 3 rfl ?_
  replace hF := rx_biE hF; obtain ⟨y1, e_y1, hF⟩ := hF
  refine rx_xci (rx_rSX C hN (w_L_runScript hst e_y1 b_B b_t b_s b_p b_w b_e b_H b_c b_L (by omega)) Y_L_runScript S_L_runScript m_L_335 ⟨⟨rfl, rfl⟩, ⟨(Nat.le_of_ble_eq_true rfl), (Nat.le_of_ble_eq_true rfl)⟩, ⟨by show _ ≤ 601024; omega, by show _ ≤ 7293034; omega⟩⟩ rfl rfl (Nat.le_of_ble_eq_true rfl) dL_law_2869) (fun E hh n1 hx => hx.elim) (fun r hh n hpp => ?_)
  obtain ⟨rfl, hn0, c_t, c_p, c_w, c_e, c_H, c_c, c_L, ff⟩ := hpp
  replace b_t : bT k (b + 1) y1.2.1 hh := c_t
  clear c_t
  replace b_p : bP k (b + 21) (b + 12) y1.2.2.1 hh := c_p
  clear c_p
  replace b_w : bQ k (b + 21 + 10) y1.2.2.2.1 hh := c_w
  clear c_w
  replace b_e : bQ k (b + 21 + 13) y1.2.2.2.2.1 hh := c_e
  clear c_e
  replace b_H : bHH k (b + 69) (b + 12) y1.2.2.2.2.2.1 hh := c_H
  clear c_H
  replace b_c : bC k (b + 199) y1.2.2.2.2.2.2.1 hh := c_c
  clear c_c
  replace b_L : bL k (b + 213) y1.2.2.2.2.2.2.2 hh := c_L
  clear c_L
  replace ff : rx_fr [(b + 1, 2), (b + 21, 10), (b + 21 + 10, 3), (b + 21 + 13, 3), (b + 69, 130), (b + 199, 4), (b + 213, 1)] _ hh := ff
  replace b_B := b_B.keep ff ⟨s_B_t, s_B_p, s_B_w, s_B_e, s_B_H, s_B_c, s_B_L, trivial⟩
  replace b_s := b_s.keep ff ⟨s_s_t, s_s_p, s_s_w, s_s_e, s_s_H, s_s_c, s_s_L, trivial⟩
  replace b_m := b_m.keep ff ⟨s_m_t, s_m_p, s_m_w, s_m_e, s_m_H, s_m_c, s_m_L, trivial⟩
  replace fr := rx_frt fr ff (fun a ha => ⟨ha.1, ha.2.1, ha.2.2.1, ha.2.2.2.1, ha.2.2.2.2.1, ha.2.2.2.2.2.1, ha.2.2.2.2.2.2.2.1, trivial⟩)
  refine rx_istore C dL_law_2872 (by decide) [(5, .int y1.1), (0, .ref sc), (1, .ref b), (2, .ref (b + 204)), (3, .ref (b + 213)), (4, .int x4)] rfl ?_
  refine rx_aload_n C dL_law_2874 3 rfl ?_
  refine rx_aload_n C dL_law_2875 1 rfl ?_
  refine rx_iload C dL_law_2876 5 rfl ?_
  refine rx_iconst C dL_law_2878 (1 : Int32) (by decide) ?_
  refine rx_iadd C dL_law_2879 ?_
  refine rx_sld C hX hbl hbA h1 dL_law_2880 ?_
  replace hF := rx_biE hF; obtain ⟨y2, e_y2, hF⟩ := hF
  refine rx_ci (rx_rV C (w_X9_runScript e_y2 b_m) Y_X9_runScript V_X9_runScript m_L_337 (Or.inl ⟨_, _, _, _, b_m.1, rfl⟩) ⟨⟨rfl, rfl⟩, ⟨(Nat.le_of_ble_eq_true rfl), (Nat.le_of_ble_eq_true rfl)⟩, ⟨by show _ ≤ 601024; omega, by show _ ≤ 7293034; omega⟩⟩ rfl rfl (Nat.le_of_ble_eq_true rfl) dL_law_2881) (fun r hh n1 hpp => ?_)
  obtain ⟨rfl, hn, c_m, ff⟩ := hpp
  replace hn : n = n1 := Eq.symm hn
  subst hn
  replace b_m : bM k (b + 204) y2.2 hh := c_m
  clear c_m
  replace ff : rx_fr [(b + 204, 9)] _ hh := ff
  replace b_B := b_B.keep ff ⟨s_B_m, trivial⟩
  replace b_t := b_t.keep ff ⟨s_t_m, trivial⟩
  replace b_s := b_s.keep ff ⟨s_s_m, trivial⟩
  replace b_p := b_p.keep ff ⟨s_p_m, trivial⟩
  replace b_w := b_w.keep ff ⟨s_w_m, trivial⟩
  replace b_e := b_e.keep ff ⟨s_e_m, trivial⟩
  replace b_H := b_H.keep ff ⟨s_H_m, trivial⟩
  replace b_c := b_c.keep ff ⟨s_c_m, trivial⟩
  replace b_L := b_L.keep ff ⟨s_L_m, trivial⟩
  replace fr := rx_frt fr ff (fun a ha => ⟨ha.2.2.2.2.2.2.1, trivial⟩)
  refine rx_istore C dL_law_2884 (by decide) [(6, .int y2.1), (5, .int y1.1), (0, .ref sc), (1, .ref b), (2, .ref (b + 204)), (3, .ref (b + 213)), (4, .int x4)] rfl ?_
  refine rx_aload_n C dL_law_2886 4 rfl ?_
  replace hF := rx_biE hF; obtain ⟨y3, e_y3, hF⟩ := hF
  refine rx_ci (rx_rV C (w_X9_thrown e_y3 b_m) Y_X9_thrown V_X9_thrown m_L_148 (Or.inl ⟨_, _, _, _, b_m.1, rfl⟩) ⟨⟨rfl, rfl⟩, ⟨(Nat.le_of_ble_eq_true rfl), (Nat.le_of_ble_eq_true rfl)⟩, ⟨by show _ ≤ 601024; omega, by show _ ≤ 7293034; omega⟩⟩ rfl rfl (Nat.le_of_ble_eq_true rfl) dL_law_2887) (fun r hh n1 hpp => ?_)
  obtain ⟨rfl, hu⟩ := hpp
  cases hu
  refine rx_iload C dL_law_2890 1 rfl ?_
  refine rx_icmp_eq C dL_law_2892 2897 (by decide) (fun c4 => ?_) (fun c4 => ?_)
  · rw [if_pos c4] at hF
    refine rx_iload C dL_law_2897 1 rfl ?_
    refine rx_if_ne C dL_law_2899 2914 (by decide) (fun c5 => ?_) (fun c5 => ?_)
    · rw [if_neg c5] at hF
      refine rx_goto C dL_law_2914 3126 (by decide) ?_
      obtain rfl := Option.some.inj hF
      refine rx_sub [2, 3, 4, 5, 6] rfl ?_
      exact rx_wide (cells + 3) (slots + 18) (by omega) (by omega) (KK _ _ (hn0) b_t b_p b_w b_e b_H b_c b_m b_L fr)
    · rw [if_pos c5] at hF
      refine rx_aload_n C dL_law_2902 5 rfl ?_
      refine rx_iconst C dL_law_2903 (0 : Int32) (by decide) ?_
      refine rx_ldL C dL_law_2904 b_L ?_
      refine rx_iload C dL_law_2905 0 rfl ?_
      refine rx_i2l C dL_law_2907 ?_
      refine rx_lcmp C dL_law_2908 ?_
      refine rx_if_eq C dL_law_2909 2914 (by decide) (fun c6 => ?_) (fun c6 => ?_)
      · rw [if_pos c6] at hF
        refine rx_goto C dL_law_2914 3126 (by decide) ?_
        obtain rfl := Option.some.inj hF
        refine rx_sub [2, 3, 4, 5, 6] rfl ?_
        exact rx_wide (cells + 3) (slots + 18) (by omega) (by omega) (KK _ _ (hn0) b_t b_p b_w b_e b_H b_c b_m b_L fr)
      · rw [if_neg c6] at hF
        refine rx_iconst C dL_law_2912 (0 : Int32) (by decide) ?_
        cases hF
  · rw [if_neg c4] at hF
    refine rx_iconst C dL_law_2895 (0 : Int32) (by decide) ?_
    cases hF
def F_case_56 (oB : ob) (os : ob) (op : ob) (ow : ob) (oe : ob) (oO : ob) (om : ob) (a1 : Int32) : Option (ob × ob × ob) := if a1 = (0 : Int32) then ((F_X8_writeQueue oB os op ow oe oO ((0 : Int32))).bind fun y2 => if a1 = (0 : Int32) then ((F_X9_writeQueue om ((0 : Int32))).bind fun y4 => if y2.1 = y4.1 then (some (y2.2.1, y2.2.2, y4.2)) else (none)) else ((F_X9_writeQueue om ((1 : Int32))).bind fun y6 => if y2.1 = y6.1 then (some (y2.2.1, y2.2.2, y6.2)) else (none))) else ((F_X8_writeQueue oB os op ow oe oO ((1 : Int32))).bind fun y8 => if a1 = (0 : Int32) then ((F_X9_writeQueue om ((0 : Int32))).bind fun y11 => if y8.1 = y11.1 then (some (y8.2.1, y8.2.2, y11.2)) else (none)) else ((F_X9_writeQueue om ((1 : Int32))).bind fun y13 => if y8.1 = y13.1 then (some (y8.2.1, y8.2.2, y13.2)) else (none)))
set_option maxRecDepth 100000 in
set_option maxHeartbeats 4000000 in
theorem lc_56 {b : Nat} {oB : ob} {os : ob} {op : ob} {ow : ob} {oe : ob} {oO : ob} {om : ob} {a1 : Int32} {y : ob × ob × ob} (hst : l.stackTraces = false) (hF : F_case_56 oB os op ow oe oO om a1 = some y) (C : rx_C G k P9 M9 c9 cL_law RL 9 ret9 S9 A9 me9) (hN : rx_NC S9) (hX : va_X sc len xs S9 S9.heap) (hbl : sc < S9.heap.size) (hbA : ¬ k 0 ≤ sc) (h1 : vp_in (x4 + (1 : Int32)) len ∧ xs (x4 + (1 : Int32)).toNatClampNeg = a1) (hcl : cells + 3 ≤ 601024) (hsl : slots + 18 ≤ 7293034) (b_B : bB k b oB h) (b_s : bS k (b + 12) os h) (b_p : bP k (b + 21) (b + 12) op h) (b_w : bQ k (b + 21 + 10) ow h) (b_e : bQ k (b + 21 + 13) oe h) (b_O : bO k (b + 203) oO h) (b_m : bM k (b + 204) om h) (KK : ∀ (hh : hp) (n1 : Nat), n ≤ n1 → bB k b y.1 hh → bO k (b + 203) y.2.1 hh → bM k (b + 204) y.2.2 hh → rx_fr [(b, 1), (b + 203, 1), (b + 204, 9)] h hh → rx_W P9 l E9 room_1 S9 M9 A9 B9 me9 c9 Q9 G k 9 (cells + 3) (slots + 18) hh n1 3126 [(0, .ref sc), (1, .ref b), (2, .ref (b + 204)), (3, .ref (b + 213)), (4, .int x4)] []) : rx_W P9 l E9 room_1 S9 M9 A9 B9 me9 c9 Q9 G k 9 cells slots h n 2917 [(0, .ref sc), (1, .ref b), (2, .ref (b + 204)), (3, .ref (b + 213)), (4, .int x4)] [] := by
  have s_s_B : b + 12 + 9 ≤ b ∨ b + 1 ≤ b + 12 := by omega
  have s_s_O : b + 12 + 9 ≤ b + 203 ∨ b + 203 + 1 ≤ b + 12 := by omega
  have s_p_B : b + 21 + 10 ≤ b ∨ b + 1 ≤ b + 21 := by omega
  have s_p_O : b + 21 + 10 ≤ b + 203 ∨ b + 203 + 1 ≤ b + 21 := by omega
  have s_w_B : b + 21 + 10 + 3 ≤ b ∨ b + 1 ≤ b + 21 + 10 := by omega
  have s_w_O : b + 21 + 10 + 3 ≤ b + 203 ∨ b + 203 + 1 ≤ b + 21 + 10 := by omega
  have s_e_B : b + 21 + 13 + 3 ≤ b ∨ b + 1 ≤ b + 21 + 13 := by omega
  have s_e_O : b + 21 + 13 + 3 ≤ b + 203 ∨ b + 203 + 1 ≤ b + 21 + 13 := by omega
  have s_m_B : b + 204 + 9 ≤ b ∨ b + 1 ≤ b + 204 := by omega
  have s_m_O : b + 204 + 9 ≤ b + 203 ∨ b + 203 + 1 ≤ b + 204 := by omega
  have s_B_m : b + 1 ≤ b + 204 ∨ b + 204 + 9 ≤ b := by omega
  have s_s_m : b + 12 + 9 ≤ b + 204 ∨ b + 204 + 9 ≤ b + 12 := by omega
  have s_p_m : b + 21 + 10 ≤ b + 204 ∨ b + 204 + 9 ≤ b + 21 := by omega
  have s_w_m : b + 21 + 10 + 3 ≤ b + 204 ∨ b + 204 + 9 ≤ b + 21 + 10 := by omega
  have s_e_m : b + 21 + 13 + 3 ≤ b + 204 ∨ b + 204 + 9 ≤ b + 21 + 13 := by omega
  have s_O_m : b + 203 + 1 ≤ b + 204 ∨ b + 204 + 9 ≤ b + 203 := by omega
  unfold F_case_56 at hF
  have fr : rx_fr [(b, 1), (b + 203, 1), (b + 204, 9)] h h := rx_fr0
  refine rx_aload_n C dL_law_2917 1 rfl ?_
  refine rx_aload_n C dL_law_2918 0 rfl ?_
  refine rx_iload C dL_law_2919 4 rfl ?_
  refine rx_iconst C dL_law_2921 (1 : Int32) (by decide) ?_
  refine rx_iadd C dL_law_2922 ?_
  refine rx_sld C hX hbl hbA h1 dL_law_2923 ?_
  refine rx_if_eq C dL_law_2924 2931 (by decide) (fun c1 => ?_) (fun c1 => ?_)
  · rw [if_pos c1] at hF
    refine rx_iconst C dL_law_2931 (0 : Int32) (by decide) ?_
    replace hF := rx_biE hF; obtain ⟨y2, e_y2, hF⟩ := hF
    refine rx_ci (rx_rV C (w_X8_writeQueue e_y2 b_B b_s b_p b_w b_e b_O) Y_X8_writeQueue V_X8_writeQueue m_L_338 (Or.inl ⟨_, _, _, _, b_B, rfl⟩) ⟨⟨rfl, rfl⟩, ⟨(Nat.le_of_ble_eq_true rfl), (Nat.le_of_ble_eq_true rfl)⟩, ⟨by show _ ≤ 601024; omega, by show _ ≤ 7293034; omega⟩⟩ rfl rfl (Nat.le_of_ble_eq_true rfl) dL_law_2932) (fun r hh n1 hpp => ?_)
    obtain ⟨rfl, hn, c_B, c_O, ff⟩ := hpp
    replace hn : n = n1 := Eq.symm hn
    subst hn
    replace b_B : bB k b y2.2.1 hh := c_B
    clear c_B
    replace b_O : bO k (b + 203) y2.2.2 hh := c_O
    clear c_O
    replace ff : rx_fr [(b, 1), (b + 203, 1)] _ hh := ff
    replace b_s := b_s.keep ff ⟨s_s_B, s_s_O, trivial⟩
    replace b_p := b_p.keep ff ⟨s_p_B, s_p_O, trivial⟩
    replace b_w := b_w.keep ff ⟨s_w_B, s_w_O, trivial⟩
    replace b_e := b_e.keep ff ⟨s_e_B, s_e_O, trivial⟩
    replace b_m := b_m.keep ff ⟨s_m_B, s_m_O, trivial⟩
    replace fr := rx_frt fr ff (fun a ha => ⟨ha.1, ha.2.1, trivial⟩)
    refine rx_aload_n C dL_law_2935 2 rfl ?_
    refine rx_aload_n C dL_law_2936 0 rfl ?_
    refine rx_iload C dL_law_2937 4 rfl ?_
    refine rx_iconst C dL_law_2939 (1 : Int32) (by decide) ?_
    refine rx_iadd C dL_law_2940 ?_
    refine rx_sld C hX hbl hbA h1 dL_law_2941 ?_
    refine rx_if_eq C dL_law_2942 2949 (by decide) (fun c3 => ?_) (fun c3 => ?_)
    · rw [if_pos c3] at hF
      refine rx_iconst C dL_law_2949 (0 : Int32) (by decide) ?_
      replace hF := rx_biE hF; obtain ⟨y4, e_y4, hF⟩ := hF
      refine rx_ci (rx_rV C (w_X9_writeQueue e_y4 b_m) Y_X9_writeQueue V_X9_writeQueue m_L_341 (Or.inl ⟨_, _, _, _, b_m.1, rfl⟩) ⟨⟨rfl, rfl⟩, ⟨(Nat.le_of_ble_eq_true rfl), (Nat.le_of_ble_eq_true rfl)⟩, ⟨by show _ ≤ 601024; omega, by show _ ≤ 7293034; omega⟩⟩ rfl rfl (Nat.le_of_ble_eq_true rfl) dL_law_2950) (fun r hh n1 hpp => ?_)
      obtain ⟨rfl, hn, c_m, ff⟩ := hpp
      replace hn : n = n1 := Eq.symm hn
      subst hn
      replace b_m : bM k (b + 204) y4.2 hh := c_m
      clear c_m
      replace ff : rx_fr [(b + 204, 9)] _ hh := ff
      replace b_B := b_B.keep ff ⟨s_B_m, trivial⟩
      replace b_s := b_s.keep ff ⟨s_s_m, trivial⟩
      replace b_p := b_p.keep ff ⟨s_p_m, trivial⟩
      replace b_w := b_w.keep ff ⟨s_w_m, trivial⟩
      replace b_e := b_e.keep ff ⟨s_e_m, trivial⟩
      replace b_O := b_O.keep ff ⟨s_O_m, trivial⟩
      replace fr := rx_frt fr ff (fun a ha => ⟨ha.2.2.1, trivial⟩)
      refine rx_icmp_eq C dL_law_2953 3126 (by decide) (fun c5 => ?_) (fun c5 => ?_)
      · rw [if_pos c5] at hF
        obtain rfl := Option.some.inj hF
        exact rx_wide (cells + 3) (slots + 18) (by omega) (by omega) (KK _ _ (Nat.le_refl _) b_B b_O b_m fr)
      · rw [if_neg c5] at hF
        refine rx_iconst C dL_law_2956 (0 : Int32) (by decide) ?_
        cases hF
    · rw [if_neg c3] at hF
      refine rx_iconst C dL_law_2945 (1 : Int32) (by decide) ?_
      refine rx_goto C dL_law_2946 2950 (by decide) ?_
      replace hF := rx_biE hF; obtain ⟨y6, e_y6, hF⟩ := hF
      refine rx_ci (rx_rV C (w_X9_writeQueue e_y6 b_m) Y_X9_writeQueue V_X9_writeQueue m_L_341 (Or.inl ⟨_, _, _, _, b_m.1, rfl⟩) ⟨⟨rfl, rfl⟩, ⟨(Nat.le_of_ble_eq_true rfl), (Nat.le_of_ble_eq_true rfl)⟩, ⟨by show _ ≤ 601024; omega, by show _ ≤ 7293034; omega⟩⟩ rfl rfl (Nat.le_of_ble_eq_true rfl) dL_law_2950) (fun r hh n1 hpp => ?_)
      obtain ⟨rfl, hn, c_m, ff⟩ := hpp
      replace hn : n = n1 := Eq.symm hn
      subst hn
      replace b_m : bM k (b + 204) y6.2 hh := c_m
      clear c_m
      replace ff : rx_fr [(b + 204, 9)] _ hh := ff
      replace b_B := b_B.keep ff ⟨s_B_m, trivial⟩
      replace b_s := b_s.keep ff ⟨s_s_m, trivial⟩
      replace b_p := b_p.keep ff ⟨s_p_m, trivial⟩
      replace b_w := b_w.keep ff ⟨s_w_m, trivial⟩
      replace b_e := b_e.keep ff ⟨s_e_m, trivial⟩
      replace b_O := b_O.keep ff ⟨s_O_m, trivial⟩
      replace fr := rx_frt fr ff (fun a ha => ⟨ha.2.2.1, trivial⟩)
      refine rx_icmp_eq C dL_law_2953 3126 (by decide) (fun c7 => ?_) (fun c7 => ?_)
      · rw [if_pos c7] at hF
        obtain rfl := Option.some.inj hF
        exact rx_wide (cells + 3) (slots + 18) (by omega) (by omega) (KK _ _ (Nat.le_refl _) b_B b_O b_m fr)
      · rw [if_neg c7] at hF
        refine rx_iconst C dL_law_2956 (0 : Int32) (by decide) ?_
        cases hF
  · rw [if_neg c1] at hF
    refine rx_iconst C dL_law_2927 (1 : Int32) (by decide) ?_
    refine rx_goto C dL_law_2928 2932 (by decide) ?_
    replace hF := rx_biE hF; obtain ⟨y8, e_y8, hF⟩ := hF
    refine rx_ci (rx_rV C (w_X8_writeQueue e_y8 b_B b_s b_p b_w b_e b_O) Y_X8_writeQueue V_X8_writeQueue m_L_338 (Or.inl ⟨_, _, _, _, b_B, rfl⟩) ⟨⟨rfl, rfl⟩, ⟨(Nat.le_of_ble_eq_true rfl), (Nat.le_of_ble_eq_true rfl)⟩, ⟨by show _ ≤ 601024; omega, by show _ ≤ 7293034; omega⟩⟩ rfl rfl (Nat.le_of_ble_eq_true rfl) dL_law_2932) (fun r hh n1 hpp => ?_)
    obtain ⟨rfl, hn, c_B, c_O, ff⟩ := hpp
    replace hn : n = n1 := Eq.symm hn
    subst hn
    replace b_B : bB k b y8.2.1 hh := c_B
    clear c_B
    replace b_O : bO k (b + 203) y8.2.2 hh := c_O
    clear c_O
    replace ff : rx_fr [(b, 1), (b + 203, 1)] _ hh := ff
    replace b_s := b_s.keep ff ⟨s_s_B, s_s_O, trivial⟩
    replace b_p := b_p.keep ff ⟨s_p_B, s_p_O, trivial⟩
    replace b_w := b_w.keep ff ⟨s_w_B, s_w_O, trivial⟩
    replace b_e := b_e.keep ff ⟨s_e_B, s_e_O, trivial⟩
    replace b_m := b_m.keep ff ⟨s_m_B, s_m_O, trivial⟩
    replace fr := rx_frt fr ff (fun a ha => ⟨ha.1, ha.2.1, trivial⟩)
    refine rx_aload_n C dL_law_2935 2 rfl ?_
    refine rx_aload_n C dL_law_2936 0 rfl ?_
    refine rx_iload C dL_law_2937 4 rfl ?_
    refine rx_iconst C dL_law_2939 (1 : Int32) (by decide) ?_
    refine rx_iadd C dL_law_2940 ?_
    refine rx_sld C hX hbl hbA h1 dL_law_2941 ?_
    refine rx_if_eq C dL_law_2942 2949 (by decide) (fun c10 => ?_) (fun c10 => ?_)
    · rw [if_pos c10] at hF
      refine rx_iconst C dL_law_2949 (0 : Int32) (by decide) ?_
      replace hF := rx_biE hF; obtain ⟨y11, e_y11, hF⟩ := hF
      refine rx_ci (rx_rV C (w_X9_writeQueue e_y11 b_m) Y_X9_writeQueue V_X9_writeQueue m_L_341 (Or.inl ⟨_, _, _, _, b_m.1, rfl⟩) ⟨⟨rfl, rfl⟩, ⟨(Nat.le_of_ble_eq_true rfl), (Nat.le_of_ble_eq_true rfl)⟩, ⟨by show _ ≤ 601024; omega, by show _ ≤ 7293034; omega⟩⟩ rfl rfl (Nat.le_of_ble_eq_true rfl) dL_law_2950) (fun r hh n1 hpp => ?_)
      obtain ⟨rfl, hn, c_m, ff⟩ := hpp
      replace hn : n = n1 := Eq.symm hn
      subst hn
      replace b_m : bM k (b + 204) y11.2 hh := c_m
      clear c_m
      replace ff : rx_fr [(b + 204, 9)] _ hh := ff
      replace b_B := b_B.keep ff ⟨s_B_m, trivial⟩
      replace b_s := b_s.keep ff ⟨s_s_m, trivial⟩
      replace b_p := b_p.keep ff ⟨s_p_m, trivial⟩
      replace b_w := b_w.keep ff ⟨s_w_m, trivial⟩
      replace b_e := b_e.keep ff ⟨s_e_m, trivial⟩
      replace b_O := b_O.keep ff ⟨s_O_m, trivial⟩
      replace fr := rx_frt fr ff (fun a ha => ⟨ha.2.2.1, trivial⟩)
      refine rx_icmp_eq C dL_law_2953 3126 (by decide) (fun c12 => ?_) (fun c12 => ?_)
      · rw [if_pos c12] at hF
        obtain rfl := Option.some.inj hF
        exact rx_wide (cells + 3) (slots + 18) (by omega) (by omega) (KK _ _ (Nat.le_refl _) b_B b_O b_m fr)
      · rw [if_neg c12] at hF
        refine rx_iconst C dL_law_2956 (0 : Int32) (by decide) ?_
        cases hF
    · rw [if_neg c10] at hF
      refine rx_iconst C dL_law_2945 (1 : Int32) (by decide) ?_
      refine rx_goto C dL_law_2946 2950 (by decide) ?_
      replace hF := rx_biE hF; obtain ⟨y13, e_y13, hF⟩ := hF
      refine rx_ci (rx_rV C (w_X9_writeQueue e_y13 b_m) Y_X9_writeQueue V_X9_writeQueue m_L_341 (Or.inl ⟨_, _, _, _, b_m.1, rfl⟩) ⟨⟨rfl, rfl⟩, ⟨(Nat.le_of_ble_eq_true rfl), (Nat.le_of_ble_eq_true rfl)⟩, ⟨by show _ ≤ 601024; omega, by show _ ≤ 7293034; omega⟩⟩ rfl rfl (Nat.le_of_ble_eq_true rfl) dL_law_2950) (fun r hh n1 hpp => ?_)
      obtain ⟨rfl, hn, c_m, ff⟩ := hpp
      replace hn : n = n1 := Eq.symm hn
      subst hn
      replace b_m : bM k (b + 204) y13.2 hh := c_m
      clear c_m
      replace ff : rx_fr [(b + 204, 9)] _ hh := ff
      replace b_B := b_B.keep ff ⟨s_B_m, trivial⟩
      replace b_s := b_s.keep ff ⟨s_s_m, trivial⟩
      replace b_p := b_p.keep ff ⟨s_p_m, trivial⟩
      replace b_w := b_w.keep ff ⟨s_w_m, trivial⟩
      replace b_e := b_e.keep ff ⟨s_e_m, trivial⟩
      replace b_O := b_O.keep ff ⟨s_O_m, trivial⟩
      replace fr := rx_frt fr ff (fun a ha => ⟨ha.2.2.1, trivial⟩)
      refine rx_icmp_eq C dL_law_2953 3126 (by decide) (fun c14 => ?_) (fun c14 => ?_)
      · rw [if_pos c14] at hF
        obtain rfl := Option.some.inj hF
        exact rx_wide (cells + 3) (slots + 18) (by omega) (by omega) (KK _ _ (Nat.le_refl _) b_B b_O b_m fr)
      · rw [if_neg c14] at hF
        refine rx_iconst C dL_law_2956 (0 : Int32) (by decide) ?_
        cases hF
def F_case_57 (oB : ob) (oO : ob) (om : ob) (oL : (Nat → Int64)) (a1 : Int32) : Option (ob × (Nat → Int64)) := (F_L_outputByte oB oO oL a1).bind fun y1 => (F_X9_outputByte om a1).bind fun y2 => (F_X9_thrown y2.2).bind fun y3 => if y3 = y1.1 then (if y1.1 = (0 : Int32) then (if (lg_cmp ((y1.2 0)) y2.1.toInt64) = (0 : Int32) then (some (y2.2, y1.2)) else (none)) else (some (y2.2, y1.2))) else (none)
set_option maxRecDepth 100000 in
set_option maxHeartbeats 4000000 in
theorem lc_57 {b : Nat} {oB : ob} {oO : ob} {om : ob} {oL : (Nat → Int64)} {a1 : Int32} {y : ob × (Nat → Int64)} (hst : l.stackTraces = false) (hF : F_case_57 oB oO om oL a1 = some y) (C : rx_C G k P9 M9 c9 cL_law RL 9 ret9 S9 A9 me9) (hN : rx_NC S9) (hX : va_X sc len xs S9 S9.heap) (hbl : sc < S9.heap.size) (hbA : ¬ k 0 ≤ sc) (h1 : vp_in (x4 + (1 : Int32)) len ∧ xs (x4 + (1 : Int32)).toNatClampNeg = a1) (hcl : cells + 3 ≤ 601024) (hsl : slots + 18 ≤ 7293034) (b_B : bB k b oB h) (b_O : bO k (b + 203) oO h) (b_m : bM k (b + 204) om h) (b_L : bL k (b + 213) oL h) (KK : ∀ (hh : hp) (n1 : Nat), n ≤ n1 → bM k (b + 204) y.1 hh → bL k (b + 213) y.2 hh → rx_fr [(b + 204, 9), (b + 213, 1)] h hh → rx_W P9 l E9 room_1 S9 M9 A9 B9 me9 c9 Q9 G k 9 (cells + 3) (slots + 18) hh n1 3126 [(0, .ref sc), (1, .ref b), (2, .ref (b + 204)), (3, .ref (b + 213)), (4, .int x4)] []) : rx_W P9 l E9 room_1 S9 M9 A9 B9 me9 c9 Q9 G k 9 cells slots h n 2958 [(0, .ref sc), (1, .ref b), (2, .ref (b + 204)), (3, .ref (b + 213)), (4, .int x4)] [] := by
  have s_B_L : b + 1 ≤ b + 213 ∨ b + 213 + 1 ≤ b := by omega
  have s_O_L : b + 203 + 1 ≤ b + 213 ∨ b + 213 + 1 ≤ b + 203 := by omega
  have s_m_L : b + 204 + 9 ≤ b + 213 ∨ b + 213 + 1 ≤ b + 204 := by omega
  have s_B_m : b + 1 ≤ b + 204 ∨ b + 204 + 9 ≤ b := by omega
  have s_O_m : b + 203 + 1 ≤ b + 204 ∨ b + 204 + 9 ≤ b + 203 := by omega
  have s_L_m : b + 213 + 1 ≤ b + 204 ∨ b + 204 + 9 ≤ b + 213 := by omega
  unfold F_case_57 at hF
  have fr : rx_fr [(b + 204, 9), (b + 213, 1)] h h := rx_fr0
  refine rx_aload_n C dL_law_2958 1 rfl ?_
  refine rx_aload_n C dL_law_2959 0 rfl ?_
  refine rx_iload C dL_law_2960 4 rfl ?_
  refine rx_iconst C dL_law_2962 (1 : Int32) (by decide) ?_
  refine rx_iadd C dL_law_2963 ?_
  refine rx_sld C hX hbl hbA h1 dL_law_2964 ?_
  refine rx_aload_n C dL_law_2965 3 rfl ?_
  replace hF := rx_biE hF; obtain ⟨y1, e_y1, hF⟩ := hF
  refine rx_xci (rx_rSX C hN (w_L_outputByte hst e_y1 b_B b_O b_L (by omega)) Y_L_outputByte S_L_outputByte m_L_342 ⟨⟨rfl, rfl⟩, ⟨(Nat.le_of_ble_eq_true rfl), (Nat.le_of_ble_eq_true rfl)⟩, ⟨by show _ ≤ 601024; omega, by show _ ≤ 7293034; omega⟩⟩ rfl rfl (Nat.le_of_ble_eq_true rfl) dL_law_2966) (fun E hh n1 hx => hx.elim) (fun r hh n hpp => ?_)
  obtain ⟨rfl, hn0, c_L, ff⟩ := hpp
  replace b_L : bL k (b + 213) y1.2 hh := c_L
  clear c_L
  replace ff : rx_fr [(b + 213, 1)] _ hh := ff
  replace b_B := b_B.keep ff ⟨s_B_L, trivial⟩
  replace b_O := b_O.keep ff ⟨s_O_L, trivial⟩
  replace b_m := b_m.keep ff ⟨s_m_L, trivial⟩
  replace fr := rx_frt fr ff (fun a ha => ⟨ha.2.1, trivial⟩)
  refine rx_istore C dL_law_2969 (by decide) [(5, .int y1.1), (0, .ref sc), (1, .ref b), (2, .ref (b + 204)), (3, .ref (b + 213)), (4, .int x4)] rfl ?_
  refine rx_aload_n C dL_law_2971 3 rfl ?_
  refine rx_aload_n C dL_law_2972 1 rfl ?_
  refine rx_iload C dL_law_2973 5 rfl ?_
  refine rx_iconst C dL_law_2975 (1 : Int32) (by decide) ?_
  refine rx_iadd C dL_law_2976 ?_
  refine rx_sld C hX hbl hbA h1 dL_law_2977 ?_
  replace hF := rx_biE hF; obtain ⟨y2, e_y2, hF⟩ := hF
  refine rx_ci (rx_rV C (w_X9_outputByte e_y2 b_m) Y_X9_outputByte V_X9_outputByte m_L_344 (Or.inl ⟨_, _, _, _, b_m.1, rfl⟩) ⟨⟨rfl, rfl⟩, ⟨(Nat.le_of_ble_eq_true rfl), (Nat.le_of_ble_eq_true rfl)⟩, ⟨by show _ ≤ 601024; omega, by show _ ≤ 7293034; omega⟩⟩ rfl rfl (Nat.le_of_ble_eq_true rfl) dL_law_2978) (fun r hh n1 hpp => ?_)
  obtain ⟨rfl, hn, c_m, ff⟩ := hpp
  replace hn : n = n1 := Eq.symm hn
  subst hn
  replace b_m : bM k (b + 204) y2.2 hh := c_m
  clear c_m
  replace ff : rx_fr [(b + 204, 9)] _ hh := ff
  replace b_B := b_B.keep ff ⟨s_B_m, trivial⟩
  replace b_O := b_O.keep ff ⟨s_O_m, trivial⟩
  replace b_L := b_L.keep ff ⟨s_L_m, trivial⟩
  replace fr := rx_frt fr ff (fun a ha => ⟨ha.1, trivial⟩)
  refine rx_istore C dL_law_2981 (by decide) [(6, .int y2.1), (5, .int y1.1), (0, .ref sc), (1, .ref b), (2, .ref (b + 204)), (3, .ref (b + 213)), (4, .int x4)] rfl ?_
  refine rx_aload_n C dL_law_2983 4 rfl ?_
  replace hF := rx_biE hF; obtain ⟨y3, e_y3, hF⟩ := hF
  refine rx_ci (rx_rV C (w_X9_thrown e_y3 b_m) Y_X9_thrown V_X9_thrown m_L_148 (Or.inl ⟨_, _, _, _, b_m.1, rfl⟩) ⟨⟨rfl, rfl⟩, ⟨(Nat.le_of_ble_eq_true rfl), (Nat.le_of_ble_eq_true rfl)⟩, ⟨by show _ ≤ 601024; omega, by show _ ≤ 7293034; omega⟩⟩ rfl rfl (Nat.le_of_ble_eq_true rfl) dL_law_2984) (fun r hh n1 hpp => ?_)
  obtain ⟨rfl, hu⟩ := hpp
  cases hu
  refine rx_iload C dL_law_2987 1 rfl ?_
  refine rx_icmp_eq C dL_law_2989 2994 (by decide) (fun c4 => ?_) (fun c4 => ?_)
  · rw [if_pos c4] at hF
    refine rx_iload C dL_law_2994 1 rfl ?_
    refine rx_if_ne C dL_law_2996 3011 (by decide) (fun c5 => ?_) (fun c5 => ?_)
    · rw [if_neg c5] at hF
      refine rx_goto C dL_law_3011 3126 (by decide) ?_
      obtain rfl := Option.some.inj hF
      refine rx_sub [2, 3, 4, 5, 6] rfl ?_
      exact rx_wide (cells + 3) (slots + 18) (by omega) (by omega) (KK _ _ (hn0) b_m b_L fr)
    · rw [if_pos c5] at hF
      refine rx_aload_n C dL_law_2999 5 rfl ?_
      refine rx_iconst C dL_law_3000 (0 : Int32) (by decide) ?_
      refine rx_ldL C dL_law_3001 b_L ?_
      refine rx_iload C dL_law_3002 0 rfl ?_
      refine rx_i2l C dL_law_3004 ?_
      refine rx_lcmp C dL_law_3005 ?_
      refine rx_if_eq C dL_law_3006 3011 (by decide) (fun c6 => ?_) (fun c6 => ?_)
      · rw [if_pos c6] at hF
        refine rx_goto C dL_law_3011 3126 (by decide) ?_
        obtain rfl := Option.some.inj hF
        refine rx_sub [2, 3, 4, 5, 6] rfl ?_
        exact rx_wide (cells + 3) (slots + 18) (by omega) (by omega) (KK _ _ (hn0) b_m b_L fr)
      · rw [if_neg c6] at hF
        refine rx_iconst C dL_law_3009 (0 : Int32) (by decide) ?_
        cases hF
  · rw [if_neg c4] at hF
    refine rx_iconst C dL_law_2992 (0 : Int32) (by decide) ?_
    cases hF
def F_case_58 (oB : ob) (oH : hst) (om : ob) : Option (ob) := (F_X8_undoableCount oB oH).bind fun y1 => (F_X9_undoableCount om).bind fun y2 => if y1 = y2.1 then (some y2.2) else (none)
set_option maxRecDepth 100000 in
set_option maxHeartbeats 4000000 in
theorem lc_58 {b : Nat} {oB : ob} {oH : hst} {om : ob} {y : ob} (hst : l.stackTraces = false) (hF : F_case_58 oB oH om = some y) (C : rx_C G k P9 M9 c9 cL_law RL 9 ret9 S9 A9 me9) (hN : rx_NC S9) (hX : va_X sc len xs S9 S9.heap) (hbl : sc < S9.heap.size) (hbA : ¬ k 0 ≤ sc) (hcl : cells + 3 ≤ 601024) (hsl : slots + 18 ≤ 7293034) (b_B : bB k b oB h) (b_H : bHH k (b + 69) (b + 12) oH h) (b_m : bM k (b + 204) om h) (KK : ∀ (hh : hp) (n1 : Nat), n ≤ n1 → bM k (b + 204) y hh → rx_fr [(b + 204, 9)] h hh → rx_W P9 l E9 room_1 S9 M9 A9 B9 me9 c9 Q9 G k 9 (cells + 3) (slots + 18) hh n1 3126 [(0, .ref sc), (1, .ref b), (2, .ref (b + 204)), (3, .ref (b + 213)), (4, .int x4)] []) : rx_W P9 l E9 room_1 S9 M9 A9 B9 me9 c9 Q9 G k 9 cells slots h n 3014 [(0, .ref sc), (1, .ref b), (2, .ref (b + 204)), (3, .ref (b + 213)), (4, .int x4)] [] := by
  have s_B_m : b + 1 ≤ b + 204 ∨ b + 204 + 9 ≤ b := by omega
  have s_H_m : b + 69 + 130 ≤ b + 204 ∨ b + 204 + 9 ≤ b + 69 := by omega
  unfold F_case_58 at hF
  have fr : rx_fr [(b + 204, 9)] h h := rx_fr0
  refine rx_aload_n C dL_law_3014 1 rfl ?_
  replace hF := rx_biE hF; obtain ⟨y1, e_y1, hF⟩ := hF
  refine rx_ci (rx_rV C (w_X8_undoableCount e_y1 b_B b_H) Y_X8_undoableCount V_X8_undoableCount m_L_345 (Or.inl ⟨_, _, _, _, b_B, rfl⟩) ⟨⟨rfl, rfl⟩, ⟨(Nat.le_of_ble_eq_true rfl), (Nat.le_of_ble_eq_true rfl)⟩, ⟨by show _ ≤ 601024; omega, by show _ ≤ 7293034; omega⟩⟩ rfl rfl (Nat.le_of_ble_eq_true rfl) dL_law_3015) (fun r hh n1 hpp => ?_)
  obtain ⟨rfl, hu⟩ := hpp
  cases hu
  refine rx_aload_n C dL_law_3018 2 rfl ?_
  replace hF := rx_biE hF; obtain ⟨y2, e_y2, hF⟩ := hF
  refine rx_ci (rx_rV C (w_X9_undoableCount e_y2 b_m) Y_X9_undoableCount V_X9_undoableCount m_L_348 (Or.inl ⟨_, _, _, _, b_m.1, rfl⟩) ⟨⟨rfl, rfl⟩, ⟨(Nat.le_of_ble_eq_true rfl), (Nat.le_of_ble_eq_true rfl)⟩, ⟨by show _ ≤ 601024; omega, by show _ ≤ 7293034; omega⟩⟩ rfl rfl (Nat.le_of_ble_eq_true rfl) dL_law_3019) (fun r hh n1 hpp => ?_)
  obtain ⟨rfl, hn, c_m, ff⟩ := hpp
  replace hn : n = n1 := Eq.symm hn
  subst hn
  replace b_m : bM k (b + 204) y2.2 hh := c_m
  clear c_m
  replace ff : rx_fr [(b + 204, 9)] _ hh := ff
  replace b_B := b_B.keep ff ⟨s_B_m, trivial⟩
  replace b_H := b_H.keep ff ⟨s_H_m, trivial⟩
  replace fr := rx_frt fr ff (fun a ha => ⟨ha.1, trivial⟩)
  refine rx_icmp_eq C dL_law_3022 3126 (by decide) (fun c3 => ?_) (fun c3 => ?_)
  · rw [if_pos c3] at hF
    obtain rfl := Option.some.inj hF
    exact rx_wide (cells + 3) (slots + 18) (by omega) (by omega) (KK _ _ (Nat.le_refl _) b_m fr)
  · rw [if_neg c3] at hF
    refine rx_iconst C dL_law_3025 (0 : Int32) (by decide) ?_
    cases hF
def F_case_59 (oB : ob) (op : ob) (ow : ob) (oe : ob) (oH : hst) (om : ob) (oL : (Nat → Int64)) : Option (ob × ob × ob × hst × ob × (Nat → Int64)) := (F_L_undo oB op ow oe oH oL).bind fun y1 => (F_X9_undo om).bind fun y2 => (F_X9_thrown y2.2).bind fun y3 => if y3 = y1.1 then (if y1.1 = (0 : Int32) then (if (lg_cmp ((y1.2.2.2.2.2 0)) y2.1.toInt64) = (0 : Int32) then (some (y1.2.1, y1.2.2.1, y1.2.2.2.1, y1.2.2.2.2.1, y2.2, y1.2.2.2.2.2)) else (none)) else (some (y1.2.1, y1.2.2.1, y1.2.2.2.1, y1.2.2.2.2.1, y2.2, y1.2.2.2.2.2))) else (none)
set_option maxRecDepth 100000 in
set_option maxHeartbeats 4000000 in
theorem lc_59 {b : Nat} {oB : ob} {op : ob} {ow : ob} {oe : ob} {oH : hst} {om : ob} {oL : (Nat → Int64)} {y : ob × ob × ob × hst × ob × (Nat → Int64)} (hst : l.stackTraces = false) (hF : F_case_59 oB op ow oe oH om oL = some y) (C : rx_C G k P9 M9 c9 cL_law RL 9 ret9 S9 A9 me9) (hN : rx_NC S9) (hX : va_X sc len xs S9 S9.heap) (hbl : sc < S9.heap.size) (hbA : ¬ k 0 ≤ sc) (hcl : cells + 3 ≤ 601024) (hsl : slots + 18 ≤ 7293034) (b_B : bB k b oB h) (b_p : bP k (b + 21) (b + 12) op h) (b_w : bQ k (b + 21 + 10) ow h) (b_e : bQ k (b + 21 + 13) oe h) (b_H : bHH k (b + 69) (b + 12) oH h) (b_m : bM k (b + 204) om h) (b_L : bL k (b + 213) oL h) (KK : ∀ (hh : hp) (n1 : Nat), n ≤ n1 → bP k (b + 21) (b + 12) y.1 hh → bQ k (b + 21 + 10) y.2.1 hh → bQ k (b + 21 + 13) y.2.2.1 hh → bHH k (b + 69) (b + 12) y.2.2.2.1 hh → bM k (b + 204) y.2.2.2.2.1 hh → bL k (b + 213) y.2.2.2.2.2 hh → rx_fr [(b + 21, 10), (b + 21 + 10, 3), (b + 21 + 13, 3), (b + 69, 130), (b + 204, 9), (b + 213, 1)] h hh → rx_W P9 l E9 room_1 S9 M9 A9 B9 me9 c9 Q9 G k 9 (cells + 3) (slots + 18) hh n1 3126 [(0, .ref sc), (1, .ref b), (2, .ref (b + 204)), (3, .ref (b + 213)), (4, .int x4)] []) : rx_W P9 l E9 room_1 S9 M9 A9 B9 me9 c9 Q9 G k 9 cells slots h n 3027 [(0, .ref sc), (1, .ref b), (2, .ref (b + 204)), (3, .ref (b + 213)), (4, .int x4)] [] := by
  have s_B_p : b + 1 ≤ b + 21 ∨ b + 21 + 10 ≤ b := by omega
  have s_B_w : b + 1 ≤ b + 21 + 10 ∨ b + 21 + 10 + 3 ≤ b := by omega
  have s_B_e : b + 1 ≤ b + 21 + 13 ∨ b + 21 + 13 + 3 ≤ b := by omega
  have s_B_H : b + 1 ≤ b + 69 ∨ b + 69 + 130 ≤ b := by omega
  have s_B_L : b + 1 ≤ b + 213 ∨ b + 213 + 1 ≤ b := by omega
  have s_m_p : b + 204 + 9 ≤ b + 21 ∨ b + 21 + 10 ≤ b + 204 := by omega
  have s_m_w : b + 204 + 9 ≤ b + 21 + 10 ∨ b + 21 + 10 + 3 ≤ b + 204 := by omega
  have s_m_e : b + 204 + 9 ≤ b + 21 + 13 ∨ b + 21 + 13 + 3 ≤ b + 204 := by omega
  have s_m_H : b + 204 + 9 ≤ b + 69 ∨ b + 69 + 130 ≤ b + 204 := by omega
  have s_m_L : b + 204 + 9 ≤ b + 213 ∨ b + 213 + 1 ≤ b + 204 := by omega
  have s_B_m : b + 1 ≤ b + 204 ∨ b + 204 + 9 ≤ b := by omega
  have s_p_m : b + 21 + 10 ≤ b + 204 ∨ b + 204 + 9 ≤ b + 21 := by omega
  have s_w_m : b + 21 + 10 + 3 ≤ b + 204 ∨ b + 204 + 9 ≤ b + 21 + 10 := by omega
  have s_e_m : b + 21 + 13 + 3 ≤ b + 204 ∨ b + 204 + 9 ≤ b + 21 + 13 := by omega
  have s_H_m : b + 69 + 130 ≤ b + 204 ∨ b + 204 + 9 ≤ b + 69 := by omega
  have s_L_m : b + 213 + 1 ≤ b + 204 ∨ b + 204 + 9 ≤ b + 213 := by omega
  unfold F_case_59 at hF
  have fr : rx_fr [(b + 21, 10), (b + 21 + 10, 3), (b + 21 + 13, 3), (b + 69, 130), (b + 204, 9), (b + 213, 1)] h h := rx_fr0
  refine rx_aload_n C dL_law_3027 1 rfl ?_
  refine rx_aload_n C dL_law_3028 3 rfl ?_
  replace hF := rx_biE hF; obtain ⟨y1, e_y1, hF⟩ := hF
  refine rx_xci (rx_rSX C hN (w_L_undo hst e_y1 b_B b_p b_w b_e b_H b_L (by omega)) Y_L_undo S_L_undo m_L_349 ⟨⟨rfl, rfl⟩, ⟨(Nat.le_of_ble_eq_true rfl), (Nat.le_of_ble_eq_true rfl)⟩, ⟨by show _ ≤ 601024; omega, by show _ ≤ 7293034; omega⟩⟩ rfl rfl (Nat.le_of_ble_eq_true rfl) dL_law_3029) (fun E hh n1 hx => hx.elim) (fun r hh n hpp => ?_)
  obtain ⟨rfl, hn0, c_p, c_w, c_e, c_H, c_L, ff⟩ := hpp
  replace b_p : bP k (b + 21) (b + 12) y1.2.1 hh := c_p
  clear c_p
  replace b_w : bQ k (b + 21 + 10) y1.2.2.1 hh := c_w
  clear c_w
  replace b_e : bQ k (b + 21 + 13) y1.2.2.2.1 hh := c_e
  clear c_e
  replace b_H : bHH k (b + 69) (b + 12) y1.2.2.2.2.1 hh := c_H
  clear c_H
  replace b_L : bL k (b + 213) y1.2.2.2.2.2 hh := c_L
  clear c_L
  replace ff : rx_fr [(b + 21, 10), (b + 21 + 10, 3), (b + 21 + 13, 3), (b + 69, 130), (b + 213, 1)] _ hh := ff
  replace b_B := b_B.keep ff ⟨s_B_p, s_B_w, s_B_e, s_B_H, s_B_L, trivial⟩
  replace b_m := b_m.keep ff ⟨s_m_p, s_m_w, s_m_e, s_m_H, s_m_L, trivial⟩
  replace fr := rx_frt fr ff (fun a ha => ⟨ha.1, ha.2.1, ha.2.2.1, ha.2.2.2.1, ha.2.2.2.2.2.1, trivial⟩)
  refine rx_istore C dL_law_3032 (by decide) [(5, .int y1.1), (0, .ref sc), (1, .ref b), (2, .ref (b + 204)), (3, .ref (b + 213)), (4, .int x4)] rfl ?_
  refine rx_aload_n C dL_law_3034 3 rfl ?_
  replace hF := rx_biE hF; obtain ⟨y2, e_y2, hF⟩ := hF
  refine rx_ci (rx_rV C (w_X9_undo e_y2 b_m) Y_X9_undo V_X9_undo m_L_352 (Or.inl ⟨_, _, _, _, b_m.1, rfl⟩) ⟨⟨rfl, rfl⟩, ⟨(Nat.le_of_ble_eq_true rfl), (Nat.le_of_ble_eq_true rfl)⟩, ⟨by show _ ≤ 601024; omega, by show _ ≤ 7293034; omega⟩⟩ rfl rfl (Nat.le_of_ble_eq_true rfl) dL_law_3035) (fun r hh n1 hpp => ?_)
  obtain ⟨rfl, hn, c_m, ff⟩ := hpp
  replace hn : n = n1 := Eq.symm hn
  subst hn
  replace b_m : bM k (b + 204) y2.2 hh := c_m
  clear c_m
  replace ff : rx_fr [(b + 204, 9)] _ hh := ff
  replace b_B := b_B.keep ff ⟨s_B_m, trivial⟩
  replace b_p := b_p.keep ff ⟨s_p_m, trivial⟩
  replace b_w := b_w.keep ff ⟨s_w_m, trivial⟩
  replace b_e := b_e.keep ff ⟨s_e_m, trivial⟩
  replace b_H := b_H.keep ff ⟨s_H_m, trivial⟩
  replace b_L := b_L.keep ff ⟨s_L_m, trivial⟩
  replace fr := rx_frt fr ff (fun a ha => ⟨ha.2.2.2.2.1, trivial⟩)
  refine rx_istore C dL_law_3038 (by decide) [(6, .int y2.1), (5, .int y1.1), (0, .ref sc), (1, .ref b), (2, .ref (b + 204)), (3, .ref (b + 213)), (4, .int x4)] rfl ?_
  refine rx_aload_n C dL_law_3040 4 rfl ?_
  replace hF := rx_biE hF; obtain ⟨y3, e_y3, hF⟩ := hF
  refine rx_ci (rx_rV C (w_X9_thrown e_y3 b_m) Y_X9_thrown V_X9_thrown m_L_148 (Or.inl ⟨_, _, _, _, b_m.1, rfl⟩) ⟨⟨rfl, rfl⟩, ⟨(Nat.le_of_ble_eq_true rfl), (Nat.le_of_ble_eq_true rfl)⟩, ⟨by show _ ≤ 601024; omega, by show _ ≤ 7293034; omega⟩⟩ rfl rfl (Nat.le_of_ble_eq_true rfl) dL_law_3041) (fun r hh n1 hpp => ?_)
  obtain ⟨rfl, hu⟩ := hpp
  cases hu
  refine rx_iload C dL_law_3044 1 rfl ?_
  refine rx_icmp_eq C dL_law_3046 3051 (by decide) (fun c4 => ?_) (fun c4 => ?_)
  · rw [if_pos c4] at hF
    refine rx_iload C dL_law_3051 1 rfl ?_
    refine rx_if_ne C dL_law_3053 3068 (by decide) (fun c5 => ?_) (fun c5 => ?_)
    · rw [if_neg c5] at hF
      refine rx_goto C dL_law_3068 3126 (by decide) ?_
      obtain rfl := Option.some.inj hF
      refine rx_sub [2, 3, 4, 5, 6] rfl ?_
      exact rx_wide (cells + 3) (slots + 18) (by omega) (by omega) (KK _ _ (hn0) b_p b_w b_e b_H b_m b_L fr)
    · rw [if_pos c5] at hF
      refine rx_aload_n C dL_law_3056 5 rfl ?_
      refine rx_iconst C dL_law_3057 (0 : Int32) (by decide) ?_
      refine rx_ldL C dL_law_3058 b_L ?_
      refine rx_iload C dL_law_3059 0 rfl ?_
      refine rx_i2l C dL_law_3061 ?_
      refine rx_lcmp C dL_law_3062 ?_
      refine rx_if_eq C dL_law_3063 3068 (by decide) (fun c6 => ?_) (fun c6 => ?_)
      · rw [if_pos c6] at hF
        refine rx_goto C dL_law_3068 3126 (by decide) ?_
        obtain rfl := Option.some.inj hF
        refine rx_sub [2, 3, 4, 5, 6] rfl ?_
        exact rx_wide (cells + 3) (slots + 18) (by omega) (by omega) (KK _ _ (hn0) b_p b_w b_e b_H b_m b_L fr)
      · rw [if_neg c6] at hF
        refine rx_iconst C dL_law_3066 (0 : Int32) (by decide) ?_
        cases hF
  · rw [if_neg c4] at hF
    refine rx_iconst C dL_law_3049 (0 : Int32) (by decide) ?_
    cases hF
def F_case_60 (oB : ob) (op : ob) (ow : ob) (oe : ob) (onp : ob) (onw : ob) (one : ob) (om : ob) : Option (ob × ob × ob × ob × ob) := (F_X8_saveSnapshot oB op ow oe onp onw one).bind fun y1 => (F_X9_saveSnapshot om).bind fun y2 => some (y1.1, y1.2.1, y1.2.2.1, y1.2.2.2, y2)
set_option maxRecDepth 100000 in
set_option maxHeartbeats 4000000 in
theorem lc_60 {b : Nat} {oB : ob} {op : ob} {ow : ob} {oe : ob} {onp : ob} {onw : ob} {one : ob} {om : ob} {y : ob × ob × ob × ob × ob} (hst : l.stackTraces = false) (hF : F_case_60 oB op ow oe onp onw one om = some y) (C : rx_C G k P9 M9 c9 cL_law RL 9 ret9 S9 A9 me9) (hN : rx_NC S9) (hX : va_X sc len xs S9 S9.heap) (hbl : sc < S9.heap.size) (hbA : ¬ k 0 ≤ sc) (hcl : cells + 3 ≤ 601024) (hsl : slots + 18 ≤ 7293034) (b_B : bB k b oB h) (b_p : bP k (b + 21) (b + 12) op h) (b_w : bQ k (b + 21 + 10) ow h) (b_e : bQ k (b + 21 + 13) oe h) (b_np : bP k (b + 53) (b + 12) onp h) (b_nw : bQ k (b + 53 + 10) onw h) (b_ne : bQ k (b + 53 + 13) one h) (b_m : bM k (b + 204) om h) (KK : ∀ (hh : hp) (n1 : Nat), n ≤ n1 → bB k b y.1 hh → bP k (b + 53) (b + 12) y.2.1 hh → bQ k (b + 53 + 10) y.2.2.1 hh → bQ k (b + 53 + 13) y.2.2.2.1 hh → bM k (b + 204) y.2.2.2.2 hh → rx_fr [(b, 1), (b + 53, 10), (b + 53 + 10, 3), (b + 53 + 13, 3), (b + 204, 9)] h hh → rx_W P9 l E9 room_1 S9 M9 A9 B9 me9 c9 Q9 G k 9 (cells + 3) (slots + 18) hh n1 3126 [(0, .ref sc), (1, .ref b), (2, .ref (b + 204)), (3, .ref (b + 213)), (4, .int x4)] []) : rx_W P9 l E9 room_1 S9 M9 A9 B9 me9 c9 Q9 G k 9 cells slots h n 3071 [(0, .ref sc), (1, .ref b), (2, .ref (b + 204)), (3, .ref (b + 213)), (4, .int x4)] [] := by
  have s_p_B : b + 21 + 10 ≤ b ∨ b + 1 ≤ b + 21 := by omega
  have s_p_np : b + 21 + 10 ≤ b + 53 ∨ b + 53 + 10 ≤ b + 21 := by omega
  have s_p_nw : b + 21 + 10 ≤ b + 53 + 10 ∨ b + 53 + 10 + 3 ≤ b + 21 := by omega
  have s_p_ne : b + 21 + 10 ≤ b + 53 + 13 ∨ b + 53 + 13 + 3 ≤ b + 21 := by omega
  have s_w_B : b + 21 + 10 + 3 ≤ b ∨ b + 1 ≤ b + 21 + 10 := by omega
  have s_w_np : b + 21 + 10 + 3 ≤ b + 53 ∨ b + 53 + 10 ≤ b + 21 + 10 := by omega
  have s_w_nw : b + 21 + 10 + 3 ≤ b + 53 + 10 ∨ b + 53 + 10 + 3 ≤ b + 21 + 10 := by omega
  have s_w_ne : b + 21 + 10 + 3 ≤ b + 53 + 13 ∨ b + 53 + 13 + 3 ≤ b + 21 + 10 := by omega
  have s_e_B : b + 21 + 13 + 3 ≤ b ∨ b + 1 ≤ b + 21 + 13 := by omega
  have s_e_np : b + 21 + 13 + 3 ≤ b + 53 ∨ b + 53 + 10 ≤ b + 21 + 13 := by omega
  have s_e_nw : b + 21 + 13 + 3 ≤ b + 53 + 10 ∨ b + 53 + 10 + 3 ≤ b + 21 + 13 := by omega
  have s_e_ne : b + 21 + 13 + 3 ≤ b + 53 + 13 ∨ b + 53 + 13 + 3 ≤ b + 21 + 13 := by omega
  have s_m_B : b + 204 + 9 ≤ b ∨ b + 1 ≤ b + 204 := by omega
  have s_m_np : b + 204 + 9 ≤ b + 53 ∨ b + 53 + 10 ≤ b + 204 := by omega
  have s_m_nw : b + 204 + 9 ≤ b + 53 + 10 ∨ b + 53 + 10 + 3 ≤ b + 204 := by omega
  have s_m_ne : b + 204 + 9 ≤ b + 53 + 13 ∨ b + 53 + 13 + 3 ≤ b + 204 := by omega
  have s_B_m : b + 1 ≤ b + 204 ∨ b + 204 + 9 ≤ b := by omega
  have s_p_m : b + 21 + 10 ≤ b + 204 ∨ b + 204 + 9 ≤ b + 21 := by omega
  have s_w_m : b + 21 + 10 + 3 ≤ b + 204 ∨ b + 204 + 9 ≤ b + 21 + 10 := by omega
  have s_e_m : b + 21 + 13 + 3 ≤ b + 204 ∨ b + 204 + 9 ≤ b + 21 + 13 := by omega
  have s_np_m : b + 53 + 10 ≤ b + 204 ∨ b + 204 + 9 ≤ b + 53 := by omega
  have s_nw_m : b + 53 + 10 + 3 ≤ b + 204 ∨ b + 204 + 9 ≤ b + 53 + 10 := by omega
  have s_ne_m : b + 53 + 13 + 3 ≤ b + 204 ∨ b + 204 + 9 ≤ b + 53 + 13 := by omega
  unfold F_case_60 at hF
  have fr : rx_fr [(b, 1), (b + 53, 10), (b + 53 + 10, 3), (b + 53 + 13, 3), (b + 204, 9)] h h := rx_fr0
  refine rx_aload_n C dL_law_3071 1 rfl ?_
  replace hF := rx_biE hF; obtain ⟨y1, e_y1, hF⟩ := hF
  refine rx_cv (rx_rV C (w_X8_saveSnapshot e_y1 b_B b_p b_w b_e b_np b_nw b_ne) Y_X8_saveSnapshot V_X8_saveSnapshot m_L_353 (Or.inl ⟨_, _, _, _, b_B, rfl⟩) ⟨⟨rfl, rfl⟩, ⟨(Nat.le_of_ble_eq_true rfl), (Nat.le_of_ble_eq_true rfl)⟩, ⟨by show _ ≤ 601024; omega, by show _ ≤ 7293034; omega⟩⟩ rfl rfl (Nat.le_of_ble_eq_true rfl) dL_law_3072) (fun hh n1 hpp => ?_)
  obtain ⟨hn, c_B, c_np, c_nw, c_ne, ff⟩ := hpp
  replace hn : n = n1 := Eq.symm hn
  subst hn
  replace b_B : bB k b y1.1 hh := c_B
  clear c_B
  replace b_np : bP k (b + 53) (b + 12) y1.2.1 hh := c_np
  clear c_np
  replace b_nw : bQ k (b + 53 + 10) y1.2.2.1 hh := c_nw
  clear c_nw
  replace b_ne : bQ k (b + 53 + 13) y1.2.2.2 hh := c_ne
  clear c_ne
  replace ff : rx_fr [(b, 1), (b + 53, 10), (b + 53 + 10, 3), (b + 53 + 13, 3)] _ hh := ff
  replace b_p := b_p.keep ff ⟨s_p_B, s_p_np, s_p_nw, s_p_ne, trivial⟩
  replace b_w := b_w.keep ff ⟨s_w_B, s_w_np, s_w_nw, s_w_ne, trivial⟩
  replace b_e := b_e.keep ff ⟨s_e_B, s_e_np, s_e_nw, s_e_ne, trivial⟩
  replace b_m := b_m.keep ff ⟨s_m_B, s_m_np, s_m_nw, s_m_ne, trivial⟩
  replace fr := rx_frt fr ff (fun a ha => ⟨ha.1, ha.2.1, ha.2.2.1, ha.2.2.2.1, trivial⟩)
  refine rx_aload_n C dL_law_3075 2 rfl ?_
  replace hF := rx_biE hF; obtain ⟨y2, e_y2, hF⟩ := hF
  refine rx_cv (rx_rV C (w_X9_saveSnapshot e_y2 b_m) Y_X9_saveSnapshot V_X9_saveSnapshot m_L_356 (Or.inl ⟨_, _, _, _, b_m.1, rfl⟩) ⟨⟨rfl, rfl⟩, ⟨(Nat.le_of_ble_eq_true rfl), (Nat.le_of_ble_eq_true rfl)⟩, ⟨by show _ ≤ 601024; omega, by show _ ≤ 7293034; omega⟩⟩ rfl rfl (Nat.le_of_ble_eq_true rfl) dL_law_3076) (fun hh n1 hpp => ?_)
  obtain ⟨hn, c_m, ff⟩ := hpp
  replace hn : n = n1 := Eq.symm hn
  subst hn
  replace b_m : bM k (b + 204) y2 hh := c_m
  clear c_m
  replace ff : rx_fr [(b + 204, 9)] _ hh := ff
  replace b_B := b_B.keep ff ⟨s_B_m, trivial⟩
  replace b_p := b_p.keep ff ⟨s_p_m, trivial⟩
  replace b_w := b_w.keep ff ⟨s_w_m, trivial⟩
  replace b_e := b_e.keep ff ⟨s_e_m, trivial⟩
  replace b_np := b_np.keep ff ⟨s_np_m, trivial⟩
  replace b_nw := b_nw.keep ff ⟨s_nw_m, trivial⟩
  replace b_ne := b_ne.keep ff ⟨s_ne_m, trivial⟩
  replace fr := rx_frt fr ff (fun a ha => ⟨ha.2.2.2.2.1, trivial⟩)
  refine rx_goto C dL_law_3079 3126 (by decide) ?_
  obtain rfl := Option.some.inj hF
  exact rx_wide (cells + 3) (slots + 18) (by omega) (by omega) (KK _ _ (Nat.le_refl _) b_B b_np b_nw b_ne b_m fr)
def F_case_61 (oB : ob) (op : ob) (ow : ob) (oe : ob) (onp : ob) (onw : ob) (one : ob) (oH : hst) (om : ob) (oL : (Nat → Int64)) : Option (ob × ob × ob × hst × ob × (Nat → Int64)) := (F_L_restoreSnapshot oB op ow oe onp onw one oH oL).bind fun y1 => (F_X9_restoreSnapshot om).bind fun y2 => (F_X9_thrown y2.2).bind fun y3 => if y3 = y1.1 then (if y1.1 = (0 : Int32) then (if (lg_cmp ((y1.2.2.2.2.2 0)) y2.1.toInt64) = (0 : Int32) then (some (y1.2.1, y1.2.2.1, y1.2.2.2.1, y1.2.2.2.2.1, y2.2, y1.2.2.2.2.2)) else (none)) else (some (y1.2.1, y1.2.2.1, y1.2.2.2.1, y1.2.2.2.2.1, y2.2, y1.2.2.2.2.2))) else (none)
set_option maxRecDepth 100000 in
set_option maxHeartbeats 4000000 in
theorem lc_61 {b : Nat} {oB : ob} {op : ob} {ow : ob} {oe : ob} {onp : ob} {onw : ob} {one : ob} {oH : hst} {om : ob} {oL : (Nat → Int64)} {y : ob × ob × ob × hst × ob × (Nat → Int64)} (hst : l.stackTraces = false) (hF : F_case_61 oB op ow oe onp onw one oH om oL = some y) (C : rx_C G k P9 M9 c9 cL_law RL 9 ret9 S9 A9 me9) (hN : rx_NC S9) (hX : va_X sc len xs S9 S9.heap) (hbl : sc < S9.heap.size) (hbA : ¬ k 0 ≤ sc) (hcl : cells + 3 ≤ 601024) (hsl : slots + 18 ≤ 7293034) (b_B : bB k b oB h) (b_p : bP k (b + 21) (b + 12) op h) (b_w : bQ k (b + 21 + 10) ow h) (b_e : bQ k (b + 21 + 13) oe h) (b_np : bP k (b + 53) (b + 12) onp h) (b_nw : bQ k (b + 53 + 10) onw h) (b_ne : bQ k (b + 53 + 13) one h) (b_H : bHH k (b + 69) (b + 12) oH h) (b_m : bM k (b + 204) om h) (b_L : bL k (b + 213) oL h) (KK : ∀ (hh : hp) (n1 : Nat), n ≤ n1 → bP k (b + 21) (b + 12) y.1 hh → bQ k (b + 21 + 10) y.2.1 hh → bQ k (b + 21 + 13) y.2.2.1 hh → bHH k (b + 69) (b + 12) y.2.2.2.1 hh → bM k (b + 204) y.2.2.2.2.1 hh → bL k (b + 213) y.2.2.2.2.2 hh → rx_fr [(b + 21, 10), (b + 21 + 10, 3), (b + 21 + 13, 3), (b + 69, 130), (b + 204, 9), (b + 213, 1)] h hh → rx_W P9 l E9 room_1 S9 M9 A9 B9 me9 c9 Q9 G k 9 (cells + 3) (slots + 18) hh n1 3126 [(0, .ref sc), (1, .ref b), (2, .ref (b + 204)), (3, .ref (b + 213)), (4, .int x4)] []) : rx_W P9 l E9 room_1 S9 M9 A9 B9 me9 c9 Q9 G k 9 cells slots h n 3082 [(0, .ref sc), (1, .ref b), (2, .ref (b + 204)), (3, .ref (b + 213)), (4, .int x4)] [] := by
  have s_B_p : b + 1 ≤ b + 21 ∨ b + 21 + 10 ≤ b := by omega
  have s_B_w : b + 1 ≤ b + 21 + 10 ∨ b + 21 + 10 + 3 ≤ b := by omega
  have s_B_e : b + 1 ≤ b + 21 + 13 ∨ b + 21 + 13 + 3 ≤ b := by omega
  have s_B_H : b + 1 ≤ b + 69 ∨ b + 69 + 130 ≤ b := by omega
  have s_B_L : b + 1 ≤ b + 213 ∨ b + 213 + 1 ≤ b := by omega
  have s_np_p : b + 53 + 10 ≤ b + 21 ∨ b + 21 + 10 ≤ b + 53 := by omega
  have s_np_w : b + 53 + 10 ≤ b + 21 + 10 ∨ b + 21 + 10 + 3 ≤ b + 53 := by omega
  have s_np_e : b + 53 + 10 ≤ b + 21 + 13 ∨ b + 21 + 13 + 3 ≤ b + 53 := by omega
  have s_np_H : b + 53 + 10 ≤ b + 69 ∨ b + 69 + 130 ≤ b + 53 := by omega
  have s_np_L : b + 53 + 10 ≤ b + 213 ∨ b + 213 + 1 ≤ b + 53 := by omega
  have s_nw_p : b + 53 + 10 + 3 ≤ b + 21 ∨ b + 21 + 10 ≤ b + 53 + 10 := by omega
  have s_nw_w : b + 53 + 10 + 3 ≤ b + 21 + 10 ∨ b + 21 + 10 + 3 ≤ b + 53 + 10 := by omega
  have s_nw_e : b + 53 + 10 + 3 ≤ b + 21 + 13 ∨ b + 21 + 13 + 3 ≤ b + 53 + 10 := by omega
  have s_nw_H : b + 53 + 10 + 3 ≤ b + 69 ∨ b + 69 + 130 ≤ b + 53 + 10 := by omega
  have s_nw_L : b + 53 + 10 + 3 ≤ b + 213 ∨ b + 213 + 1 ≤ b + 53 + 10 := by omega
  have s_ne_p : b + 53 + 13 + 3 ≤ b + 21 ∨ b + 21 + 10 ≤ b + 53 + 13 := by omega
  have s_ne_w : b + 53 + 13 + 3 ≤ b + 21 + 10 ∨ b + 21 + 10 + 3 ≤ b + 53 + 13 := by omega
  have s_ne_e : b + 53 + 13 + 3 ≤ b + 21 + 13 ∨ b + 21 + 13 + 3 ≤ b + 53 + 13 := by omega
  have s_ne_H : b + 53 + 13 + 3 ≤ b + 69 ∨ b + 69 + 130 ≤ b + 53 + 13 := by omega
  have s_ne_L : b + 53 + 13 + 3 ≤ b + 213 ∨ b + 213 + 1 ≤ b + 53 + 13 := by omega
  have s_m_p : b + 204 + 9 ≤ b + 21 ∨ b + 21 + 10 ≤ b + 204 := by omega
  have s_m_w : b + 204 + 9 ≤ b + 21 + 10 ∨ b + 21 + 10 + 3 ≤ b + 204 := by omega
  have s_m_e : b + 204 + 9 ≤ b + 21 + 13 ∨ b + 21 + 13 + 3 ≤ b + 204 := by omega
  have s_m_H : b + 204 + 9 ≤ b + 69 ∨ b + 69 + 130 ≤ b + 204 := by omega
  have s_m_L : b + 204 + 9 ≤ b + 213 ∨ b + 213 + 1 ≤ b + 204 := by omega
  have s_B_m : b + 1 ≤ b + 204 ∨ b + 204 + 9 ≤ b := by omega
  have s_p_m : b + 21 + 10 ≤ b + 204 ∨ b + 204 + 9 ≤ b + 21 := by omega
  have s_w_m : b + 21 + 10 + 3 ≤ b + 204 ∨ b + 204 + 9 ≤ b + 21 + 10 := by omega
  have s_e_m : b + 21 + 13 + 3 ≤ b + 204 ∨ b + 204 + 9 ≤ b + 21 + 13 := by omega
  have s_np_m : b + 53 + 10 ≤ b + 204 ∨ b + 204 + 9 ≤ b + 53 := by omega
  have s_nw_m : b + 53 + 10 + 3 ≤ b + 204 ∨ b + 204 + 9 ≤ b + 53 + 10 := by omega
  have s_ne_m : b + 53 + 13 + 3 ≤ b + 204 ∨ b + 204 + 9 ≤ b + 53 + 13 := by omega
  have s_H_m : b + 69 + 130 ≤ b + 204 ∨ b + 204 + 9 ≤ b + 69 := by omega
  have s_L_m : b + 213 + 1 ≤ b + 204 ∨ b + 204 + 9 ≤ b + 213 := by omega
  unfold F_case_61 at hF
  have fr : rx_fr [(b + 21, 10), (b + 21 + 10, 3), (b + 21 + 13, 3), (b + 69, 130), (b + 204, 9), (b + 213, 1)] h h := rx_fr0
  refine rx_aload_n C dL_law_3082 1 rfl ?_
  refine rx_aload_n C dL_law_3083 3 rfl ?_
  replace hF := rx_biE hF; obtain ⟨y1, e_y1, hF⟩ := hF
  refine rx_xci (rx_rSX C hN (w_L_restoreSnapshot hst e_y1 b_B b_p b_w b_e b_np b_nw b_ne b_H b_L (by omega)) Y_L_restoreSnapshot S_L_restoreSnapshot m_L_357 ⟨⟨rfl, rfl⟩, ⟨(Nat.le_of_ble_eq_true rfl), (Nat.le_of_ble_eq_true rfl)⟩, ⟨by show _ ≤ 601024; omega, by show _ ≤ 7293034; omega⟩⟩ rfl rfl (Nat.le_of_ble_eq_true rfl) dL_law_3084) (fun E hh n1 hx => hx.elim) (fun r hh n hpp => ?_)
  obtain ⟨rfl, hn0, c_p, c_w, c_e, c_H, c_L, ff⟩ := hpp
  replace b_p : bP k (b + 21) (b + 12) y1.2.1 hh := c_p
  clear c_p
  replace b_w : bQ k (b + 21 + 10) y1.2.2.1 hh := c_w
  clear c_w
  replace b_e : bQ k (b + 21 + 13) y1.2.2.2.1 hh := c_e
  clear c_e
  replace b_H : bHH k (b + 69) (b + 12) y1.2.2.2.2.1 hh := c_H
  clear c_H
  replace b_L : bL k (b + 213) y1.2.2.2.2.2 hh := c_L
  clear c_L
  replace ff : rx_fr [(b + 21, 10), (b + 21 + 10, 3), (b + 21 + 13, 3), (b + 69, 130), (b + 213, 1)] _ hh := ff
  replace b_B := b_B.keep ff ⟨s_B_p, s_B_w, s_B_e, s_B_H, s_B_L, trivial⟩
  replace b_np := b_np.keep ff ⟨s_np_p, s_np_w, s_np_e, s_np_H, s_np_L, trivial⟩
  replace b_nw := b_nw.keep ff ⟨s_nw_p, s_nw_w, s_nw_e, s_nw_H, s_nw_L, trivial⟩
  replace b_ne := b_ne.keep ff ⟨s_ne_p, s_ne_w, s_ne_e, s_ne_H, s_ne_L, trivial⟩
  replace b_m := b_m.keep ff ⟨s_m_p, s_m_w, s_m_e, s_m_H, s_m_L, trivial⟩
  replace fr := rx_frt fr ff (fun a ha => ⟨ha.1, ha.2.1, ha.2.2.1, ha.2.2.2.1, ha.2.2.2.2.2.1, trivial⟩)
  refine rx_istore C dL_law_3087 (by decide) [(5, .int y1.1), (0, .ref sc), (1, .ref b), (2, .ref (b + 204)), (3, .ref (b + 213)), (4, .int x4)] rfl ?_
  refine rx_aload_n C dL_law_3089 3 rfl ?_
  replace hF := rx_biE hF; obtain ⟨y2, e_y2, hF⟩ := hF
  refine rx_ci (rx_rV C (w_X9_restoreSnapshot e_y2 b_m) Y_X9_restoreSnapshot V_X9_restoreSnapshot m_L_359 (Or.inl ⟨_, _, _, _, b_m.1, rfl⟩) ⟨⟨rfl, rfl⟩, ⟨(Nat.le_of_ble_eq_true rfl), (Nat.le_of_ble_eq_true rfl)⟩, ⟨by show _ ≤ 601024; omega, by show _ ≤ 7293034; omega⟩⟩ rfl rfl (Nat.le_of_ble_eq_true rfl) dL_law_3090) (fun r hh n1 hpp => ?_)
  obtain ⟨rfl, hn, c_m, ff⟩ := hpp
  replace hn : n = n1 := Eq.symm hn
  subst hn
  replace b_m : bM k (b + 204) y2.2 hh := c_m
  clear c_m
  replace ff : rx_fr [(b + 204, 9)] _ hh := ff
  replace b_B := b_B.keep ff ⟨s_B_m, trivial⟩
  replace b_p := b_p.keep ff ⟨s_p_m, trivial⟩
  replace b_w := b_w.keep ff ⟨s_w_m, trivial⟩
  replace b_e := b_e.keep ff ⟨s_e_m, trivial⟩
  replace b_np := b_np.keep ff ⟨s_np_m, trivial⟩
  replace b_nw := b_nw.keep ff ⟨s_nw_m, trivial⟩
  replace b_ne := b_ne.keep ff ⟨s_ne_m, trivial⟩
  replace b_H := b_H.keep ff ⟨s_H_m, trivial⟩
  replace b_L := b_L.keep ff ⟨s_L_m, trivial⟩
  replace fr := rx_frt fr ff (fun a ha => ⟨ha.2.2.2.2.1, trivial⟩)
  refine rx_istore C dL_law_3093 (by decide) [(6, .int y2.1), (5, .int y1.1), (0, .ref sc), (1, .ref b), (2, .ref (b + 204)), (3, .ref (b + 213)), (4, .int x4)] rfl ?_
  refine rx_aload_n C dL_law_3095 4 rfl ?_
  replace hF := rx_biE hF; obtain ⟨y3, e_y3, hF⟩ := hF
  refine rx_ci (rx_rV C (w_X9_thrown e_y3 b_m) Y_X9_thrown V_X9_thrown m_L_148 (Or.inl ⟨_, _, _, _, b_m.1, rfl⟩) ⟨⟨rfl, rfl⟩, ⟨(Nat.le_of_ble_eq_true rfl), (Nat.le_of_ble_eq_true rfl)⟩, ⟨by show _ ≤ 601024; omega, by show _ ≤ 7293034; omega⟩⟩ rfl rfl (Nat.le_of_ble_eq_true rfl) dL_law_3096) (fun r hh n1 hpp => ?_)
  obtain ⟨rfl, hu⟩ := hpp
  cases hu
  refine rx_iload C dL_law_3099 1 rfl ?_
  refine rx_icmp_eq C dL_law_3101 3106 (by decide) (fun c4 => ?_) (fun c4 => ?_)
  · rw [if_pos c4] at hF
    refine rx_iload C dL_law_3106 1 rfl ?_
    refine rx_if_ne C dL_law_3108 3123 (by decide) (fun c5 => ?_) (fun c5 => ?_)
    · rw [if_neg c5] at hF
      refine rx_goto C dL_law_3123 3126 (by decide) ?_
      obtain rfl := Option.some.inj hF
      refine rx_sub [2, 3, 4, 5, 6] rfl ?_
      exact rx_wide (cells + 3) (slots + 18) (by omega) (by omega) (KK _ _ (hn0) b_p b_w b_e b_H b_m b_L fr)
    · rw [if_pos c5] at hF
      refine rx_aload_n C dL_law_3111 5 rfl ?_
      refine rx_iconst C dL_law_3112 (0 : Int32) (by decide) ?_
      refine rx_ldL C dL_law_3113 b_L ?_
      refine rx_iload C dL_law_3114 0 rfl ?_
      refine rx_i2l C dL_law_3116 ?_
      refine rx_lcmp C dL_law_3117 ?_
      refine rx_if_eq C dL_law_3118 3123 (by decide) (fun c6 => ?_) (fun c6 => ?_)
      · rw [if_pos c6] at hF
        refine rx_goto C dL_law_3123 3126 (by decide) ?_
        obtain rfl := Option.some.inj hF
        refine rx_sub [2, 3, 4, 5, 6] rfl ?_
        exact rx_wide (cells + 3) (slots + 18) (by omega) (by omega) (KK _ _ (hn0) b_p b_w b_e b_H b_m b_L fr)
      · rw [if_neg c6] at hF
        refine rx_iconst C dL_law_3121 (0 : Int32) (by decide) ?_
        cases hF
  · rw [if_neg c4] at hF
    refine rx_iconst C dL_law_3104 (0 : Int32) (by decide) ?_
    cases hF
end LAWC
