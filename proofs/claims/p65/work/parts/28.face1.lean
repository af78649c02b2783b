section GEN
variable {l : Launch} {G : va_G} {k : Nat → Nat} {h : hp} {n : Nat}
def F_X8_appendText (oB : ob) (ot : ob) (x1 : Int32) (x2 : Int32) (x3 : Int32) (x4 : Int32) (x5 : Int32) : Option (Int32 × ob) := if (ot.1 1) ≤ (480 : Int32) then ((F_X6_appendWord ot x1).bind fun y2 => (F_X6_appendWord y2 x2).bind fun y3 => (F_X6_appendWord y3 x3).bind fun y4 => (F_X6_appendWord y4 x4).bind fun y5 => (F_X6_appendWord y5 x5).bind fun y6 => some ((y6.1 1), y6)) else (some ((-1 : Int32), ot))
set_option maxRecDepth 100000 in
set_option maxHeartbeats 4000000 in
theorem w_X8_appendText {b : Nat} {oB : ob} {ot : ob} {x1 : Int32} {x2 : Int32} {x3 : Int32} {x4 : Int32} {x5 : Int32} {y : Int32 × ob} (hF : F_X8_appendText oB ot x1 x2 x3 x4 x5 = some y) (b_B : bB k b oB h) (b_t : bT k (b + 1) ot h) : Met l yX8_appendText (rx_ws yX8_appendText cX8_appendText 6 (some .int)) (rx_rm 2 44) (va_Pc [.ref b, .int x1, .int x2, .int x3, .int x4, .int x5] (rx_G G k h n)) (va_Qi (fun r u => y.1 = r ∧ u.2 = n ∧ bT k (b + 1) y.2 u.1 ∧ rx_fr [(b + 1, 2)] h u.1) (rx_B G k) (rx_A k)) 0 0 (rx_A k) := by
  have s_B_t : b + 1 ≤ b + 1 ∨ b + 1 + 2 ≤ b := by omega
  refine rx_start [(0, .ref b), (1, .int x1), (2, .int x2), (3, .int x3), (4, .int x4), (5, .int x5)] rfl (Nat.le_of_ble_eq_true rfl) (by decide) rfl (fun P9 E9 S9 M9 A9 B9 me9 c9 C hname => ?_)
  unfold F_X8_appendText at hF
  have fr : rx_fr [(b + 1, 2)] h h := rx_fr0
  refine rx_aload_n C dX8_appendText_0 0 rfl ?_
  refine rx_getf C f_X8_10 dX8_appendText_1 b_B rfl ?_
  refine rx_getfN C f_X8_73 dX8_appendText_4 b_t.1 rfl ?_
  refine rx_sipush C dX8_appendText_7 (480 : Int32) (by decide) ?_
  refine rx_icmp_le C dX8_appendText_10 15 (by decide) (fun c1 => ?_) (fun c1 => ?_)
  · rw [if_pos c1] at hF
    refine rx_aload_n C dX8_appendText_15 0 rfl ?_
    refine rx_getf C f_X8_10 dX8_appendText_16 b_B rfl ?_
    refine rx_iload_n C dX8_appendText_19 1 rfl ?_
    replace hF := rx_biE hF; obtain ⟨y2, e_y2, hF⟩ := hF
    refine rx_cv (rx_rVN C (w_X6_appendWord e_y2 b_t) Y_X6_appendWord V_X6_appendWord m_X8_77 (Or.inl ⟨_, _, _, _, b_t.1, rfl⟩) ⟨⟨rfl, rfl⟩, ⟨(Nat.le_of_ble_eq_true rfl), (Nat.le_of_ble_eq_true rfl)⟩, ⟨(Nat.le_of_ble_eq_true rfl), (Nat.le_of_ble_eq_true rfl)⟩⟩ rfl rfl (Nat.le_of_ble_eq_true rfl) dX8_appendText_20) (fun hh n1 hpp => ?_)
    obtain ⟨hn, c_t, ff⟩ := hpp
    replace hn : n = n1 := Eq.symm hn
    subst hn
    replace b_t : bT k (b + 1) y2 hh := c_t
    clear c_t
    replace ff : rx_fr [(b + 1, 2)] _ hh := ff
    replace b_B := b_B.keep ff ⟨s_B_t, trivial⟩
    replace fr := rx_frt fr ff (fun a ha => ⟨ha.1, trivial⟩)
    refine rx_aload_n C dX8_appendText_23 0 rfl ?_
    refine rx_getf C f_X8_10 dX8_appendText_24 b_B rfl ?_
    refine rx_iload_n C dX8_appendText_27 2 rfl ?_
    replace hF := rx_biE hF; obtain ⟨y3, e_y3, hF⟩ := hF
    refine rx_cv (rx_rVN C (w_X6_appendWord e_y3 b_t) Y_X6_appendWord V_X6_appendWord m_X8_77 (Or.inl ⟨_, _, _, _, b_t.1, rfl⟩) ⟨⟨rfl, rfl⟩, ⟨(Nat.le_of_ble_eq_true rfl), (Nat.le_of_ble_eq_true rfl)⟩, ⟨(Nat.le_of_ble_eq_true rfl), (Nat.le_of_ble_eq_true rfl)⟩⟩ rfl rfl (Nat.le_of_ble_eq_true rfl) dX8_appendText_28) (fun hh n1 hpp => ?_)
    obtain ⟨hn, c_t, ff⟩ := hpp
    replace hn : n = n1 := Eq.symm hn
    subst hn
    replace b_t : bT k (b + 1) y3 hh := c_t
    clear c_t
    replace ff : rx_fr [(b + 1, 2)] _ hh := ff
    replace b_B := b_B.keep ff ⟨s_B_t, trivial⟩
    replace fr := rx_frt fr ff (fun a ha => ⟨ha.1, trivial⟩)
    refine rx_aload_n C dX8_appendText_31 0 rfl ?_
    refine rx_getf C f_X8_10 dX8_appendText_32 b_B rfl ?_
    refine rx_iload_n C dX8_appendText_35 3 rfl ?_
    replace hF := rx_biE hF; obtain ⟨y4, e_y4, hF⟩ := hF
    refine rx_cv (rx_rVN C (w_X6_appendWord e_y4 b_t) Y_X6_appendWord V_X6_appendWord m_X8_77 (Or.inl ⟨_, _, _, _, b_t.1, rfl⟩) ⟨⟨rfl, rfl⟩, ⟨(Nat.le_of_ble_eq_true rfl), (Nat.le_of_ble_eq_true rfl)⟩, ⟨(Nat.le_of_ble_eq_true rfl), (Nat.le_of_ble_eq_true rfl)⟩⟩ rfl rfl (Nat.le_of_ble_eq_true rfl) dX8_appendText_36) (fun hh n1 hpp => ?_)
    obtain ⟨hn, c_t, ff⟩ := hpp
    replace hn : n = n1 := Eq.symm hn
    subst hn
    replace b_t : bT k (b + 1) y4 hh := c_t
    clear c_t
    replace ff : rx_fr [(b + 1, 2)] _ hh := ff
    replace b_B := b_B.keep ff ⟨s_B_t, trivial⟩
    replace fr := rx_frt fr ff (fun a ha => ⟨ha.1, trivial⟩)
    refine rx_aload_n C dX8_appendText_39 0 rfl ?_
    refine rx_getf C f_X8_10 dX8_appendText_40 b_B rfl ?_
    refine rx_iload C dX8_appendText_43 4 rfl ?_
    replace hF := rx_biE hF; obtain ⟨y5, e_y5, hF⟩ := hF
    refine rx_cv (rx_rVN C (w_X6_appendWord e_y5 b_t) Y_X6_appendWord V_X6_appendWord m_X8_77 (Or.inl ⟨_, _, _, _, b_t.1, rfl⟩) ⟨⟨rfl, rfl⟩, ⟨(Nat.le_of_ble_eq_true rfl), (Nat.le_of_ble_eq_true rfl)⟩, ⟨(Nat.le_of_ble_eq_true rfl), (Nat.le_of_ble_eq_true rfl)⟩⟩ rfl rfl (Nat.le_of_ble_eq_true rfl) dX8_appendText_45) (fun hh n1 hpp => ?_)
    obtain ⟨hn, c_t, ff⟩ := hpp
    replace hn : n = n1 := Eq.symm hn
    subst hn
    replace b_t : bT k (b + 1) y5 hh := c_t
    clear c_t
    replace ff : rx_fr [(b + 1, 2)] _ hh := ff
    replace b_B := b_B.keep ff ⟨s_B_t, trivial⟩
    replace fr := rx_frt fr ff (fun a ha => ⟨ha.1, trivial⟩)
    refine rx_aload_n C dX8_appendText_48 0 rfl ?_
    refine rx_getf C f_X8_10 dX8_appendText_49 b_B rfl ?_
    refine rx_iload C dX8_appendText_52 5 rfl ?_
    replace hF := rx_biE hF; obtain ⟨y6, e_y6, hF⟩ := hF
    refine rx_cv (rx_rVN C (w_X6_appendWord e_y6 b_t) Y_X6_appendWord V_X6_appendWord m_X8_77 (Or.inl ⟨_, _, _, _, b_t.1, rfl⟩) ⟨⟨rfl, rfl⟩, ⟨(Nat.le_of_ble_eq_true rfl), (Nat.le_of_ble_eq_true rfl)⟩, ⟨(Nat.le_of_ble_eq_true rfl), (Nat.le_of_ble_eq_true rfl)⟩⟩ rfl rfl (Nat.le_of_ble_eq_true rfl) dX8_appendText_54) (fun hh n1 hpp => ?_)
    obtain ⟨hn, c_t, ff⟩ := hpp
    replace hn : n = n1 := Eq.symm hn
    subst hn
    replace b_t : bT k (b + 1) y6 hh := c_t
    clear c_t
    replace ff : rx_fr [(b + 1, 2)] _ hh := ff
    replace b_B := b_B.keep ff ⟨s_B_t, trivial⟩
    replace fr := rx_frt fr ff (fun a ha => ⟨ha.1, trivial⟩)
    refine rx_aload_n C dX8_appendText_57 0 rfl ?_
    refine rx_getf C f_X8_10 dX8_appendText_58 b_B rfl ?_
    refine rx_getfN C f_X8_73 dX8_appendText_61 b_t.1 rfl ?_
    obtain rfl := Option.some.inj hF
    exact rx_iret C dX8_appendText_64 (Nat.le_refl _) (Nat.le_refl _) ⟨rfl, rfl, b_t, fr⟩
  · rw [if_neg c1] at hF
    refine rx_iconst C dX8_appendText_13 (-1 : Int32) (by decide) ?_
    obtain rfl := Option.some.inj hF
    exact rx_iret C dX8_appendText_14 (Nat.le_refl _) (Nat.le_refl _) ⟨rfl, rfl, b_t, fr⟩
def F_X8_requireLength (oB : ob) (ot : ob) (x1 : Int32) : Option (Unit) := if x1 < (0 : Int32) then (none) else (if x1 ≤ (ot.1 1) then (some ()) else (none))
set_option maxRecDepth 100000 in
set_option maxHeartbeats 4000000 in
theorem w_X8_requireLength {b : Nat} {oB : ob} {ot : ob} {x1 : Int32} {y : Unit} (hF : F_X8_requireLength oB ot x1 = some y) (b_B : bB k b oB h) (b_t : bT k (b + 1) ot h) : Met l yX8_requireLength (rx_ws yX8_requireLength cX8_requireLength 2 none) (rx_rm 0 0) (va_Pc [.ref b, .int x1] (rx_G G k h n)) (va_Qv (fun u => u = (h, n)) (rx_B G k) (rx_A k)) 0 0 (rx_A k) := by
  refine rx_start [(0, .ref b), (1, .int x1)] rfl (Nat.le_of_ble_eq_true rfl) (by decide) rfl (fun P9 E9 S9 M9 A9 B9 me9 c9 C hname => ?_)
  unfold F_X8_requireLength at hF
  refine rx_iload_n C dX8_requireLength_0 1 rfl ?_
  refine rx_if_lt C dX8_requireLength_1 15 (by decide) (fun c1 => ?_) (fun c1 => ?_)
  · rw [if_pos c1] at hF
    cases hF
  · rw [if_neg c1] at hF
    refine rx_iload_n C dX8_requireLength_4 1 rfl ?_
    refine rx_aload_n C dX8_requireLength_5 0 rfl ?_
    refine rx_getf C f_X8_10 dX8_requireLength_6 b_B rfl ?_
    refine rx_getfN C f_X8_73 dX8_requireLength_9 b_t.1 rfl ?_
    refine rx_icmp_le C dX8_requireLength_12 26 (by decide) (fun c2 => ?_) (fun c2 => ?_)
    · rw [if_pos c2] at hF
      obtain rfl := Option.some.inj hF
      exact rx_vret C dX8_requireLength_26 (Nat.le_refl _) (Nat.le_refl _) rfl
    · rw [if_neg c2] at hF
      cases hF
def F_X8_loadGame (oB : ob) (ot : ob) (od : ob) (os : ob) (op : ob) (ow : ob) (oe : ob) (oH : hst) (x1 : Int32) : Option (Int32 × ob × ob × ob × ob × ob × ob × ob × hst) := (F_X8_requireLength oB ot x1).bind fun y1 => (F_X6_open ot x1).bind fun y2 => (F_X8_readHeader y2 od).bind fun y3 => (F_X8_readPeople y3.1 y3.2).bind fun y4 => (F_X8_readBridges y4.1 y4.2).bind fun y5 => rx_le (upd y5.1.1 1 ((0 : Int32)), y5.1.2) fun o_t_6 => (F_X6_hasFailed o_t_6).bind fun y7 => if y7 = (0 : Int32) then ((F_X5_copyFrom os y5.2).bind fun y9 => (F_X2_begin op ow oe y9).bind fun y10 => (F_X1_clear oH).bind fun y11 => rx_le (upd oB.1 10 ((0 : Int32)), oB.2) fun o_B_12 => some ((y9.1 4), o_B_12, o_t_6, y5.2, y9, y10.1, y10.2.1, y10.2.2, y11)) else (some ((-1 : Int32), oB, o_t_6, y5.2, os, op, ow, oe, oH))
set_option maxRecDepth 100000 in
set_option maxHeartbeats 4000000 in
theorem w_X8_loadGame {b : Nat} {oB : ob} {ot : ob} {od : ob} {os : ob} {op : ob} {ow : ob} {oe : ob} {oH : hst} {x1 : Int32} {y : Int32 × ob × ob × ob × ob × ob × ob × ob × hst} (hF : F_X8_loadGame oB ot od os op ow oe oH x1 = some y) (b_B : bB k b oB h) (b_t : bT k (b + 1) ot h) (b_d : bS k (b + 3) od h) (b_s : bS k (b + 12) os h) (b_p : bP k (b + 21) (b + 12) op h) (b_w : bQ k (b + 21 + 10) ow h) (b_e : bQ k (b + 21 + 13) oe h) (b_H : bHH k (b + 69) (b + 12) oH h) : Met l yX8_loadGame (rx_ws yX8_loadGame cX8_loadGame 2 (some .int)) (rx_rm 8 178) (va_Pc [.ref b, .int x1] (rx_G G k h n)) (va_Qi (fun r u => y.1 = r ∧ u.2 = n ∧ bB k b y.2.1 u.1 ∧ bT k (b + 1) y.2.2.1 u.1 ∧ bS k (b + 3) y.2.2.2.1 u.1 ∧ bS k (b + 12) y.2.2.2.2.1 u.1 ∧ bP k (b + 21) (b + 12) y.2.2.2.2.2.1 u.1 ∧ bQ k (b + 21 + 10) y.2.2.2.2.2.2.1 u.1 ∧ bQ k (b + 21 + 13) y.2.2.2.2.2.2.2.1 u.1 ∧ bHH k (b + 69) (b + 12) y.2.2.2.2.2.2.2.2 u.1 ∧ rx_fr [(b, 1), (b + 1, 2), (b + 3, 9), (b + 12, 9), (b + 21, 10), (b + 21 + 10, 3), (b + 21 + 13, 3), (b + 69, 130)] h u.1) (rx_B G k) (rx_A k)) 0 0 (rx_A k) := by
  have s_B_t : b + 1 ≤ b + 1 ∨ b + 1 + 2 ≤ b := by omega
  have s_d_t : b + 3 + 9 ≤ b + 1 ∨ b + 1 + 2 ≤ b + 3 := by omega
  have s_s_t : b + 12 + 9 ≤ b + 1 ∨ b + 1 + 2 ≤ b + 12 := by omega
  have s_p_t : b + 21 + 10 ≤ b + 1 ∨ b + 1 + 2 ≤ b + 21 := by omega
  have s_w_t : b + 21 + 10 + 3 ≤ b + 1 ∨ b + 1 + 2 ≤ b + 21 + 10 := by omega
  have s_e_t : b + 21 + 13 + 3 ≤ b + 1 ∨ b + 1 + 2 ≤ b + 21 + 13 := by omega
  have s_H_t : b + 69 + 130 ≤ b + 1 ∨ b + 1 + 2 ≤ b + 69 := by omega
  have s_B_d : b + 1 ≤ b + 3 ∨ b + 3 + 9 ≤ b := by omega
  have s_s_d : b + 12 + 9 ≤ b + 3 ∨ b + 3 + 9 ≤ b + 12 := by omega
  have s_p_d : b + 21 + 10 ≤ b + 3 ∨ b + 3 + 9 ≤ b + 21 := by omega
  have s_w_d : b + 21 + 10 + 3 ≤ b + 3 ∨ b + 3 + 9 ≤ b + 21 + 10 := by omega
  have s_e_d : b + 21 + 13 + 3 ≤ b + 3 ∨ b + 3 + 9 ≤ b + 21 + 13 := by omega
  have s_H_d : b + 69 + 130 ≤ b + 3 ∨ b + 3 + 9 ≤ b + 69 := by omega
  have s_B_s : b + 1 ≤ b + 12 ∨ b + 12 + 9 ≤ b := by omega
  have s_t_s : b + 1 + 2 ≤ b + 12 ∨ b + 12 + 9 ≤ b + 1 := by omega
  have s_d_s : b + 3 + 9 ≤ b + 12 ∨ b + 12 + 9 ≤ b + 3 := by omega
  have s_p_s : b + 21 + 10 ≤ b + 12 ∨ b + 12 + 9 ≤ b + 21 := by omega
  have s_w_s : b + 21 + 10 + 3 ≤ b + 12 ∨ b + 12 + 9 ≤ b + 21 + 10 := by omega
  have s_e_s : b + 21 + 13 + 3 ≤ b + 12 ∨ b + 12 + 9 ≤ b + 21 + 13 := by omega
  have s_H_s : b + 69 + 130 ≤ b + 12 ∨ b + 12 + 9 ≤ b + 69 := by omega
  have s_B_p : b + 1 ≤ b + 21 ∨ b + 21 + 10 ≤ b := by omega
  have s_B_w : b + 1 ≤ b + 21 + 10 ∨ b + 21 + 10 + 3 ≤ b := by omega
  have s_B_e : b + 1 ≤ b + 21 + 13 ∨ b + 21 + 13 + 3 ≤ b := by omega
  have s_t_p : b + 1 + 2 ≤ b + 21 ∨ b + 21 + 10 ≤ b + 1 := by omega
  have s_t_w : b + 1 + 2 ≤ b + 21 + 10 ∨ b + 21 + 10 + 3 ≤ b + 1 := by omega
  have s_t_e : b + 1 + 2 ≤ b + 21 + 13 ∨ b + 21 + 13 + 3 ≤ b + 1 := by omega
  have s_d_p : b + 3 + 9 ≤ b + 21 ∨ b + 21 + 10 ≤ b + 3 := by omega
  have s_d_w : b + 3 + 9 ≤ b + 21 + 10 ∨ b + 21 + 10 + 3 ≤ b + 3 := by omega
  have s_d_e : b + 3 + 9 ≤ b + 21 + 13 ∨ b + 21 + 13 + 3 ≤ b + 3 := by omega
  have s_s_p : b + 12 + 9 ≤ b + 21 ∨ b + 21 + 10 ≤ b + 12 := by omega
  have s_s_w : b + 12 + 9 ≤ b + 21 + 10 ∨ b + 21 + 10 + 3 ≤ b + 12 := by omega
  have s_s_e : b + 12 + 9 ≤ b + 21 + 13 ∨ b + 21 + 13 + 3 ≤ b + 12 := by omega
  have s_H_p : b + 69 + 130 ≤ b + 21 ∨ b + 21 + 10 ≤ b + 69 := by omega
  have s_H_w : b + 69 + 130 ≤ b + 21 + 10 ∨ b + 21 + 10 + 3 ≤ b + 69 := by omega
  have s_H_e : b + 69 + 130 ≤ b + 21 + 13 ∨ b + 21 + 13 + 3 ≤ b + 69 := by omega
  have s_B_H : b + 1 ≤ b + 69 ∨ b + 69 + 130 ≤ b := by omega
  have s_t_H : b + 1 + 2 ≤ b + 69 ∨ b + 69 + 130 ≤ b + 1 := by omega
  have s_d_H : b + 3 + 9 ≤ b + 69 ∨ b + 69 + 130 ≤ b + 3 := by omega
  have s_s_H : b + 12 + 9 ≤ b + 69 ∨ b + 69 + 130 ≤ b + 12 := by omega
  have s_p_H : b + 21 + 10 ≤ b + 69 ∨ b + 69 + 130 ≤ b + 21 := by omega
  have s_w_H : b + 21 + 10 + 3 ≤ b + 69 ∨ b + 69 + 130 ≤ b + 21 + 10 := by omega
  have s_e_H : b + 21 + 13 + 3 ≤ b + 69 ∨ b + 69 + 130 ≤ b + 21 + 13 := by omega
  have s_t_B : b + 1 + 2 ≤ b ∨ b + 1 ≤ b + 1 := by omega
  have s_d_B : b + 3 + 9 ≤ b ∨ b + 1 ≤ b + 3 := by omega
  have s_s_B : b + 12 + 9 ≤ b ∨ b + 1 ≤ b + 12 := by omega
  have s_p_B : b + 21 + 10 ≤ b ∨ b + 1 ≤ b + 21 := by omega
  have s_w_B : b + 21 + 10 + 3 ≤ b ∨ b + 1 ≤ b + 21 + 10 := by omega
  have s_e_B : b + 21 + 13 + 3 ≤ b ∨ b + 1 ≤ b + 21 + 13 := by omega
  have s_H_B : b + 69 + 130 ≤ b ∨ b + 1 ≤ b + 69 := by omega
  refine rx_start [(0, .ref b), (1, .int x1)] rfl (Nat.le_of_ble_eq_true rfl) (by decide) rfl (fun P9 E9 S9 M9 A9 B9 me9 c9 C hname => ?_)
  unfold F_X8_loadGame at hF
  have fr : rx_fr [(b, 1), (b + 1, 2), (b + 3, 9), (b + 12, 9), (b + 21, 10), (b + 21 + 10, 3), (b + 21 + 13, 3), (b + 69, 130)] h h := rx_fr0
  refine rx_aload_n C dX8_loadGame_0 0 rfl ?_
  refine rx_iload_n C dX8_loadGame_1 1 rfl ?_
  replace hF := rx_biE hF; obtain ⟨y1, e_y1, hF⟩ := hF
  refine rx_cv (rx_rV C (w_X8_requireLength e_y1 b_B b_t) Y_X8_requireLength V_X8_requireLength m_X8_81 (Or.inl ⟨_, _, _, _, b_B, rfl⟩) ⟨⟨rfl, rfl⟩, ⟨(Nat.le_of_ble_eq_true rfl), (Nat.le_of_ble_eq_true rfl)⟩, ⟨(Nat.le_of_ble_eq_true rfl), (Nat.le_of_ble_eq_true rfl)⟩⟩ rfl rfl (Nat.le_of_ble_eq_true rfl) dX8_loadGame_2) (fun hh n1 hpp => ?_)
  have hu := hpp
  cases hu
  refine rx_aload_n C dX8_loadGame_5 0 rfl ?_
  refine rx_getf C f_X8_10 dX8_loadGame_6 b_B rfl ?_
  refine rx_iload_n C dX8_loadGame_9 1 rfl ?_
  replace hF := rx_biE hF; obtain ⟨y2, e_y2, hF⟩ := hF
  refine rx_cv (rx_rVN C (w_X6_open e_y2 b_t) Y_X6_open V_X6_open m_X8_84 (Or.inl ⟨_, _, _, _, b_t.1, rfl⟩) ⟨⟨rfl, rfl⟩, ⟨(Nat.le_of_ble_eq_true rfl), (Nat.le_of_ble_eq_true rfl)⟩, ⟨(Nat.le_of_ble_eq_true rfl), (Nat.le_of_ble_eq_true rfl)⟩⟩ rfl rfl (Nat.le_of_ble_eq_true rfl) dX8_loadGame_10) (fun hh n1 hpp => ?_)
  obtain ⟨hn, c_t, ff⟩ := hpp
  replace hn : n = n1 := Eq.symm hn
  subst hn
  replace b_t : bT k (b + 1) y2 hh := c_t
  clear c_t
  replace ff : rx_fr [(b + 1, 2)] _ hh := ff
  replace b_B := b_B.keep ff ⟨s_B_t, trivial⟩
  replace b_d := b_d.keep ff ⟨s_d_t, trivial⟩
  replace b_s := b_s.keep ff ⟨s_s_t, trivial⟩
  replace b_p := b_p.keep ff ⟨s_p_t, trivial⟩
  replace b_w := b_w.keep ff ⟨s_w_t, trivial⟩
  replace b_e := b_e.keep ff ⟨s_e_t, trivial⟩
  replace b_H := b_H.keep ff ⟨s_H_t, trivial⟩
  replace fr := rx_frt fr ff (fun a ha => ⟨ha.2.1, trivial⟩)
  refine rx_aload_n C dX8_loadGame_13 0 rfl ?_
  refine rx_getf C f_X8_10 dX8_loadGame_14 b_B rfl ?_
  refine rx_aload_n C dX8_loadGame_17 0 rfl ?_
  refine rx_getf C f_X8_19 dX8_loadGame_18 b_B rfl ?_
  replace hF := rx_biE hF; obtain ⟨y3, e_y3, hF⟩ := hF
  refine rx_cv (rx_rS C (w_X8_readHeader e_y3 b_t b_d (by omega)) Y_X8_readHeader S_X8_readHeader m_X8_87 ⟨⟨rfl, rfl⟩, ⟨(Nat.le_of_ble_eq_true rfl), (Nat.le_of_ble_eq_true rfl)⟩, ⟨(Nat.le_of_ble_eq_true rfl), (Nat.le_of_ble_eq_true rfl)⟩⟩ rfl rfl (Nat.le_of_ble_eq_true rfl) dX8_loadGame_21) (fun hh n1 hpp => ?_)
  obtain ⟨hn, c_t, c_d, ff⟩ := hpp
  replace hn : n = n1 := Eq.symm hn
  subst hn
  replace b_t : bT k (b + 1) y3.1 hh := c_t
  clear c_t
  replace b_d : bS k (b + 3) y3.2 hh := c_d
  clear c_d
  replace ff : rx_fr [(b + 1, 2), (b + 3, 9)] _ hh := ff
  replace b_B := b_B.keep ff ⟨s_B_t, s_B_d, trivial⟩
  replace b_s := b_s.keep ff ⟨s_s_t, s_s_d, trivial⟩
  replace b_p := b_p.keep ff ⟨s_p_t, s_p_d, trivial⟩
  replace b_w := b_w.keep ff ⟨s_w_t, s_w_d, trivial⟩
  replace b_e := b_e.keep ff ⟨s_e_t, s_e_d, trivial⟩
  replace b_H := b_H.keep ff ⟨s_H_t, s_H_d, trivial⟩
  replace fr := rx_frt fr ff (fun a ha => ⟨ha.2.1, ha.2.2.1, trivial⟩)
  refine rx_aload_n C dX8_loadGame_24 0 rfl ?_
  refine rx_getf C f_X8_10 dX8_loadGame_25 b_B rfl ?_
  refine rx_aload_n C dX8_loadGame_28 0 rfl ?_
  refine rx_getf C f_X8_19 dX8_loadGame_29 b_B rfl ?_
  replace hF := rx_biE hF; obtain ⟨y4, e_y4, hF⟩ := hF
  refine rx_cv (rx_rS C (w_X8_readPeople e_y4 b_t b_d (by omega)) Y_X8_readPeople S_X8_readPeople m_X8_91 ⟨⟨rfl, rfl⟩, ⟨(Nat.le_of_ble_eq_true rfl), (Nat.le_of_ble_eq_true rfl)⟩, ⟨(Nat.le_of_ble_eq_true rfl), (Nat.le_of_ble_eq_true rfl)⟩⟩ rfl rfl (Nat.le_of_ble_eq_true rfl) dX8_loadGame_32) (fun hh n1 hpp => ?_)
  obtain ⟨hn, c_t, c_d, ff⟩ := hpp
  replace hn : n = n1 := Eq.symm hn
  subst hn
  replace b_t : bT k (b + 1) y4.1 hh := c_t
  clear c_t
  replace b_d : bS k (b + 3) y4.2 hh := c_d
  clear c_d
  replace ff : rx_fr [(b + 1, 2), (b + 3, 9)] _ hh := ff
  replace b_B := b_B.keep ff ⟨s_B_t, s_B_d, trivial⟩
  replace b_s := b_s.keep ff ⟨s_s_t, s_s_d, trivial⟩
  replace b_p := b_p.keep ff ⟨s_p_t, s_p_d, trivial⟩
  replace b_w := b_w.keep ff ⟨s_w_t, s_w_d, trivial⟩
  replace b_e := b_e.keep ff ⟨s_e_t, s_e_d, trivial⟩
  replace b_H := b_H.keep ff ⟨s_H_t, s_H_d, trivial⟩
  replace fr := rx_frt fr ff (fun a ha => ⟨ha.2.1, ha.2.2.1, trivial⟩)
  refine rx_aload_n C dX8_loadGame_35 0 rfl ?_
  refine rx_getf C f_X8_10 dX8_loadGame_36 b_B rfl ?_
  refine rx_aload_n C dX8_loadGame_39 0 rfl ?_
  refine rx_getf C f_X8_19 dX8_loadGame_40 b_B rfl ?_
  replace hF := rx_biE hF; obtain ⟨y5, e_y5, hF⟩ := hF
  refine rx_cv (rx_rS C (w_X8_readBridges e_y5 b_t b_d (by omega)) Y_X8_readBridges S_X8_readBridges m_X8_94 ⟨⟨rfl, rfl⟩, ⟨(Nat.le_of_ble_eq_true rfl), (Nat.le_of_ble_eq_true rfl)⟩, ⟨(Nat.le_of_ble_eq_true rfl), (Nat.le_of_ble_eq_true rfl)⟩⟩ rfl rfl (Nat.le_of_ble_eq_true rfl) dX8_loadGame_43) (fun hh n1 hpp => ?_)
  obtain ⟨hn, c_t, c_d, ff⟩ := hpp
  replace hn : n = n1 := Eq.symm hn
  subst hn
  replace b_t : bT k (b + 1) y5.1 hh := c_t
  clear c_t
  replace b_d : bS k (b + 3) y5.2 hh := c_d
  clear c_d
  replace ff : rx_fr [(b + 1, 2), (b + 3, 9)] _ hh := ff
  replace b_B := b_B.keep ff ⟨s_B_t, s_B_d, trivial⟩
  replace b_s := b_s.keep ff ⟨s_s_t, s_s_d, trivial⟩
  replace b_p := b_p.keep ff ⟨s_p_t, s_p_d, trivial⟩
  replace b_w := b_w.keep ff ⟨s_w_t, s_w_d, trivial⟩
  replace b_e := b_e.keep ff ⟨s_e_t, s_e_d, trivial⟩
  replace b_H := b_H.keep ff ⟨s_H_t, s_H_d, trivial⟩
  replace fr := rx_frt fr ff (fun a ha => ⟨ha.2.1, ha.2.2.1, trivial⟩)
  refine rx_aload_n C dX8_loadGame_46 0 rfl ?_
  refine rx_getf C f_X8_10 dX8_loadGame_47 b_B rfl ?_
  refine rx_iconst C dX8_loadGame_50 (0 : Int32) (by decide) ?_
  replace hF := rx_leE hF; obtain ⟨o_t_6, e_o_t_6, hF⟩ := hF
  refine rx_pT1N C f_X8_73 dX8_loadGame_51 b_t e_o_t_6 (fun hh c_t ff => ?_)
  replace b_t := c_t
  replace b_B := b_B.keep ff ⟨s_B_t, trivial⟩
  replace b_d := b_d.keep ff ⟨s_d_t, trivial⟩
  replace b_s := b_s.keep ff ⟨s_s_t, trivial⟩
  replace b_p := b_p.keep ff ⟨s_p_t, trivial⟩
  replace b_w := b_w.keep ff ⟨s_w_t, trivial⟩
  replace b_e := b_e.keep ff ⟨s_e_t, trivial⟩
  replace b_H := b_H.keep ff ⟨s_H_t, trivial⟩
  replace fr := rx_frt fr ff (fun a ha => ⟨ha.2.1, trivial⟩)
  refine rx_aload_n C dX8_loadGame_54 0 rfl ?_
  refine rx_getf C f_X8_10 dX8_loadGame_55 b_B rfl ?_
  replace hF := rx_biE hF; obtain ⟨y7, e_y7, hF⟩ := hF
  refine rx_ci (rx_rVN C (w_X6_hasFailed e_y7 b_t) Y_X6_hasFailed V_X6_hasFailed m_X8_97 (Or.inl ⟨_, _, _, _, b_t.1, rfl⟩) ⟨⟨rfl, rfl⟩, ⟨(Nat.le_of_ble_eq_true rfl), (Nat.le_of_ble_eq_true rfl)⟩, ⟨(Nat.le_of_ble_eq_true rfl), (Nat.le_of_ble_eq_true rfl)⟩⟩ rfl rfl (Nat.le_of_ble_eq_true rfl) dX8_loadGame_58) (fun r hh n1 hpp => ?_)
  obtain ⟨rfl, bo_y7, hu⟩ := hpp
  cases hu
  refine rx_if_eq C dX8_loadGame_61 66 (by decide) (fun c8 => ?_) (fun c8 => ?_)
  · rw [if_pos c8] at hF
    refine rx_aload_n C dX8_loadGame_66 0 rfl ?_
    refine rx_getf C f_X8_23 dX8_loadGame_67 b_B rfl ?_
    refine rx_aload_n C dX8_loadGame_70 0 rfl ?_
    refine rx_getf C f_X8_19 dX8_loadGame_71 b_B rfl ?_
    replace hF := rx_biE hF; obtain ⟨y9, e_y9, hF⟩ := hF
    refine rx_cv (rx_rVN C (w_X5_copyFrom e_y9 b_s b_d (by omega)) Y_X5_copyFrom V_X5_copyFrom m_X8_101 (Or.inl ⟨_, _, _, _, b_s.1, rfl⟩) ⟨⟨rfl, rfl⟩, ⟨(Nat.le_of_ble_eq_true rfl), (Nat.le_of_ble_eq_true rfl)⟩, ⟨(Nat.le_of_ble_eq_true rfl), (Nat.le_of_ble_eq_true rfl)⟩⟩ rfl rfl (Nat.le_of_ble_eq_true rfl) dX8_loadGame_74) (fun hh n1 hpp => ?_)
    obtain ⟨hn, c_s, ff⟩ := hpp
    replace hn : n = n1 := Eq.symm hn
    subst hn
    replace b_s : bS k (b + 12) y9 hh := c_s
    clear c_s
    replace ff : rx_fr [(b + 12, 9)] _ hh := ff
    replace b_B := b_B.keep ff ⟨s_B_s, trivial⟩
    replace b_t := b_t.keep ff ⟨s_t_s, trivial⟩
    replace b_d := b_d.keep ff ⟨s_d_s, trivial⟩
    replace b_p := b_p.keep ff ⟨s_p_s, trivial⟩
    replace b_w := b_w.keep ff ⟨s_w_s, trivial⟩
    replace b_e := b_e.keep ff ⟨s_e_s, trivial⟩
    replace b_H := b_H.keep ff ⟨s_H_s, trivial⟩
    replace fr := rx_frt fr ff (fun a ha => ⟨ha.2.2.2.1, trivial⟩)
    refine rx_aload_n C dX8_loadGame_77 0 rfl ?_
    refine rx_getf C f_X8_31 dX8_loadGame_78 b_B rfl ?_
    replace hF := rx_biE hF; obtain ⟨y10, e_y10, hF⟩ := hF
    refine rx_cv (rx_rVN C (w_X2_begin e_y10 b_p b_w b_e b_s (by omega)) Y_X2_begin V_X2_begin m_X8_71 (Or.inl ⟨_, _, _, _, b_p.1, rfl⟩) ⟨⟨rfl, rfl⟩, ⟨(Nat.le_of_ble_eq_true rfl), (Nat.le_of_ble_eq_true rfl)⟩, ⟨(Nat.le_of_ble_eq_true rfl), (Nat.le_of_ble_eq_true rfl)⟩⟩ rfl rfl (Nat.le_of_ble_eq_true rfl) dX8_loadGame_81) (fun hh n1 hpp => ?_)
    obtain ⟨hn, c_p, c_w, c_e, ff⟩ := hpp
    replace hn : n = n1 := Eq.symm hn
    subst hn
    replace b_p : bP k (b + 21) (b + 12) y10.1 hh := c_p
    clear c_p
    replace b_w : bQ k (b + 21 + 10) y10.2.1 hh := c_w
    clear c_w
    replace b_e : bQ k (b + 21 + 13) y10.2.2 hh := c_e
    clear c_e
    replace ff : rx_fr [(b + 21, 10), (b + 21 + 10, 3), (b + 21 + 13, 3)] _ hh := ff
    replace b_B := b_B.keep ff ⟨s_B_p, s_B_w, s_B_e, trivial⟩
    replace b_t := b_t.keep ff ⟨s_t_p, s_t_w, s_t_e, trivial⟩
    replace b_d := b_d.keep ff ⟨s_d_p, s_d_w, s_d_e, trivial⟩
    replace b_s := b_s.keep ff ⟨s_s_p, s_s_w, s_s_e, trivial⟩
    replace b_H := b_H.keep ff ⟨s_H_p, s_H_w, s_H_e, trivial⟩
    replace fr := rx_frt fr ff (fun a ha => ⟨ha.2.2.2.2.1, ha.2.2.2.2.2.1, ha.2.2.2.2.2.2.1, trivial⟩)
    refine rx_aload_n C dX8_loadGame_84 0 rfl ?_
    refine rx_getf C f_X8_44 dX8_loadGame_85 b_B rfl ?_
    replace hF := rx_biE hF; obtain ⟨y11, e_y11, hF⟩ := hF
    refine rx_cv (rx_rVN C (w_X1_clear e_y11 b_H) Y_X1_clear V_X1_clear m_X8_104 (Or.inl ⟨_, _, _, _, b_H.1.1, rfl⟩) ⟨⟨rfl, rfl⟩, ⟨(Nat.le_of_ble_eq_true rfl), (Nat.le_of_ble_eq_true rfl)⟩, ⟨(Nat.le_of_ble_eq_true rfl), (Nat.le_of_ble_eq_true rfl)⟩⟩ rfl rfl (Nat.le_of_ble_eq_true rfl) dX8_loadGame_88) (fun hh n1 hpp => ?_)
    obtain ⟨hn, c_H, ff⟩ := hpp
    replace hn : n = n1 := Eq.symm hn
    subst hn
    replace b_H : bHH k (b + 69) (b + 12) y11 hh := c_H
    clear c_H
    replace ff : rx_fr [(b + 69, 130)] _ hh := ff
    replace b_B := b_B.keep ff ⟨s_B_H, trivial⟩
    replace b_t := b_t.keep ff ⟨s_t_H, trivial⟩
    replace b_d := b_d.keep ff ⟨s_d_H, trivial⟩
    replace b_s := b_s.keep ff ⟨s_s_H, trivial⟩
    replace b_p := b_p.keep ff ⟨s_p_H, trivial⟩
    replace b_w := b_w.keep ff ⟨s_w_H, trivial⟩
    replace b_e := b_e.keep ff ⟨s_e_H, trivial⟩
    replace fr := rx_frt fr ff (fun a ha => ⟨ha.2.2.2.2.2.2.2.1, trivial⟩)
    refine rx_aload_n C dX8_loadGame_91 0 rfl ?_
    refine rx_iconst C dX8_loadGame_92 (0 : Int32) (by decide) ?_
    replace hF := rx_leE hF; obtain ⟨o_B_12, e_o_B_12, hF⟩ := hF
    refine rx_pB10 C f_X8_107 dX8_loadGame_93 b_B e_o_B_12 (Or.inl rfl) (fun hh c_B ff => ?_)
    replace b_B := c_B
    replace b_t := b_t.keep ff ⟨s_t_B, trivial⟩
    replace b_d := b_d.keep ff ⟨s_d_B, trivial⟩
    replace b_s := b_s.keep ff ⟨s_s_B, trivial⟩
    replace b_p := b_p.keep ff ⟨s_p_B, trivial⟩
    replace b_w := b_w.keep ff ⟨s_w_B, trivial⟩
    replace b_e := b_e.keep ff ⟨s_e_B, trivial⟩
    replace b_H := b_H.keep ff ⟨s_H_B, trivial⟩
    replace fr := rx_frt fr ff (fun a ha => ⟨ha.1, trivial⟩)
    refine rx_aload_n C dX8_loadGame_96 0 rfl ?_
    refine rx_getf C f_X8_23 dX8_loadGame_97 b_B rfl ?_
    refine rx_getfN C f_X8_111 dX8_loadGame_100 b_s.1 rfl ?_
    obtain rfl := Option.some.inj hF
    exact rx_iret C dX8_loadGame_103 (Nat.le_refl _) (Nat.le_refl _) ⟨rfl, rfl, b_B, b_t, b_d, b_s, b_p, b_w, b_e, b_H, fr⟩
  · rw [if_neg c8] at hF
    refine rx_iconst C dX8_loadGame_64 (-1 : Int32) (by decide) ?_
    obtain rfl := Option.some.inj hF
    exact rx_iret C dX8_loadGame_65 (Nat.le_refl _) (Nat.le_refl _) ⟨rfl, rfl, b_B, b_t, b_d, b_s, b_p, b_w, b_e, b_H, fr⟩
def F_X8_errorCode (oB : ob) (ot : ob) : Option (Int32) := some ((ot.1 7))
set_option maxRecDepth 100000 in
set_option maxHeartbeats 4000000 in
theorem w_X8_errorCode {b : Nat} {oB : ob} {ot : ob} {y : Int32} (hF : F_X8_errorCode oB ot = some y) (b_B : bB k b oB h) (b_t : bT k (b + 1) ot h) : Met l yX8_errorCode (rx_ws yX8_errorCode cX8_errorCode 1 (some .int)) (rx_rm 0 0) (va_Pc [.ref b] (rx_G G k h n)) (va_Qi (fun r u => y = r ∧ u = (h, n)) (rx_B G k) (rx_A k)) 0 0 (rx_A k) := by
  refine rx_start [(0, .ref b)] rfl (Nat.le_of_ble_eq_true rfl) (by decide) rfl (fun P9 E9 S9 M9 A9 B9 me9 c9 C hname => ?_)
  unfold F_X8_errorCode at hF
  refine rx_aload_n C dX8_errorCode_0 0 rfl ?_
  refine rx_getf C f_X8_10 dX8_errorCode_1 b_B rfl ?_
  refine rx_getfN C f_X8_114 dX8_errorCode_4 b_t.1 rfl ?_
  obtain rfl := Option.some.inj hF
  exact rx_iret C dX8_errorCode_7 (Nat.le_refl _) (Nat.le_refl _) ⟨rfl, rfl⟩
def F_X8_errorOffset (oB : ob) (ot : ob) : Option (Int32) := some ((ot.1 8))
set_option maxRecDepth 100000 in
set_option maxHeartbeats 4000000 in
theorem w_X8_errorOffset {b : Nat} {oB : ob} {ot : ob} {y : Int32} (hF : F_X8_errorOffset oB ot = some y) (b_B : bB k b oB h) (b_t : bT k (b + 1) ot h) : Met l yX8_errorOffset (rx_ws yX8_errorOffset cX8_errorOffset 1 (some .int)) (rx_rm 0 0) (va_Pc [.ref b] (rx_G G k h n)) (va_Qi (fun r u => y = r ∧ u = (h, n)) (rx_B G k) (rx_A k)) 0 0 (rx_A k) := by
  refine rx_start [(0, .ref b)] rfl (Nat.le_of_ble_eq_true rfl) (by decide) rfl (fun P9 E9 S9 M9 A9 B9 me9 c9 C hname => ?_)
  unfold F_X8_errorOffset at hF
  refine rx_aload_n C dX8_errorOffset_0 0 rfl ?_
  refine rx_getf C f_X8_10 dX8_errorOffset_1 b_B rfl ?_
  refine rx_getfN C f_X8_117 dX8_errorOffset_4 b_t.1 rfl ?_
  obtain rfl := Option.some.inj hF
  exact rx_iret C dX8_errorOffset_7 (Nat.le_refl _) (Nat.le_refl _) ⟨rfl, rfl⟩
def F_X8_turn (oB : ob) (op : ob) : Option (Int32) := some ((op.1 1))
set_option maxRecDepth 100000 in
set_option maxHeartbeats 4000000 in
theorem w_X8_turn {b : Nat} {oB : ob} {op : ob} {y : Int32} (hF : F_X8_turn oB op = some y) (b_B : bB k b oB h) (b_p : bP k (b + 21) (b + 12) op h) : Met l yX8_turn (rx_ws yX8_turn cX8_turn 1 (some .int)) (rx_rm 0 0) (va_Pc [.ref b] (rx_G G k h n)) (va_Qi (fun r u => y = r ∧ u = (h, n)) (rx_B G k) (rx_A k)) 0 0 (rx_A k) := by
  refine rx_start [(0, .ref b)] rfl (Nat.le_of_ble_eq_true rfl) (by decide) rfl (fun P9 E9 S9 M9 A9 B9 me9 c9 C hname => ?_)
  unfold F_X8_turn at hF
  refine rx_aload_n C dX8_turn_0 0 rfl ?_
  refine rx_getf C f_X8_31 dX8_turn_1 b_B rfl ?_
  refine rx_getfN C f_X8_120 dX8_turn_4 b_p.1 rfl ?_
  obtain rfl := Option.some.inj hF
  exact rx_iret C dX8_turn_7 (Nat.le_refl _) (Nat.le_refl _) ⟨rfl, rfl⟩
def F_X8_limitAngle (oB : ob) (op : ob) : Option (Int32) := some ((op.1 2))
set_option maxRecDepth 100000 in
set_option maxHeartbeats 4000000 in
theorem w_X8_limitAngle {b : Nat} {oB : ob} {op : ob} {y : Int32} (hF : F_X8_limitAngle oB op = some y) (b_B : bB k b oB h) (b_p : bP k (b + 21) (b + 12) op h) : Met l yX8_limitAngle (rx_ws yX8_limitAngle cX8_limitAngle 1 (some .int)) (rx_rm 0 0) (va_Pc [.ref b] (rx_G G k h n)) (va_Qi (fun r u => y = r ∧ u = (h, n)) (rx_B G k) (rx_A k)) 0 0 (rx_A k) := by
  refine rx_start [(0, .ref b)] rfl (Nat.le_of_ble_eq_true rfl) (by decide) rfl (fun P9 E9 S9 M9 A9 B9 me9 c9 C hname => ?_)
  unfold F_X8_limitAngle at hF
  refine rx_aload_n C dX8_limitAngle_0 0 rfl ?_
  refine rx_getf C f_X8_31 dX8_limitAngle_1 b_B rfl ?_
  refine rx_getfN C f_X8_123 dX8_limitAngle_4 b_p.1 rfl ?_
  obtain rfl := Option.some.inj hF
  exact rx_iret C dX8_limitAngle_7 (Nat.le_refl _) (Nat.le_refl _) ⟨rfl, rfl⟩
def F_X8_tollBox (oB : ob) (op : ob) : Option (Int32) := some ((op.1 3))
set_option maxRecDepth 100000 in
set_option maxHeartbeats 4000000 in
theorem w_X8_tollBox {b : Nat} {oB : ob} {op : ob} {y : Int32} (hF : F_X8_tollBox oB op = some y) (b_B : bB k b oB h) (b_p : bP k (b + 21) (b + 12) op h) : Met l yX8_tollBox (rx_ws yX8_tollBox cX8_tollBox 1 (some .int)) (rx_rm 0 0) (va_Pc [.ref b] (rx_G G k h n)) (va_Qi (fun r u => y = r ∧ u = (h, n)) (rx_B G k) (rx_A k)) 0 0 (rx_A k) := by
  refine rx_start [(0, .ref b)] rfl (Nat.le_of_ble_eq_true rfl) (by decide) rfl (fun P9 E9 S9 M9 A9 B9 me9 c9 C hname => ?_)
  unfold F_X8_tollBox at hF
  refine rx_aload_n C dX8_tollBox_0 0 rfl ?_
  refine rx_getf C f_X8_31 dX8_tollBox_1 b_B rfl ?_
  refine rx_getfN C f_X8_126 dX8_tollBox_4 b_p.1 rfl ?_
  obtain rfl := Option.some.inj hF
  exact rx_iret C dX8_tollBox_7 (Nat.le_refl _) (Nat.le_refl _) ⟨rfl, rfl⟩
def F_X8_bankOf (x0 : Int32) : Option (Int32) := if x0 = (0 : Int32) then (some ((0 : Int32))) else (some ((1 : Int32)))
set_option maxRecDepth 100000 in
set_option maxHeartbeats 4000000 in
theorem w_X8_bankOf {x0 : Int32} {y : Int32} (hF : F_X8_bankOf x0 = some y) : Met l yX8_bankOf (rx_ws yX8_bankOf cX8_bankOf 1 (some .int)) (rx_rm 0 0) (va_Pc [.int x0] (rx_G G k h n)) (va_Qi (fun r u => y = r ∧ u = (h, n)) (rx_B G k) (rx_A k)) 0 0 (rx_A k) := by
  refine rx_start [(0, .int x0)] rfl (Nat.le_of_ble_eq_true rfl) (by decide) rfl (fun P9 E9 S9 M9 A9 B9 me9 c9 C hname => ?_)
  unfold F_X8_bankOf at hF
  refine rx_iload_n C dX8_bankOf_0 0 rfl ?_
  refine rx_if_eq C dX8_bankOf_1 8 (by decide) (fun c1 => ?_) (fun c1 => ?_)
  · rw [if_pos c1] at hF
    refine rx_iconst C dX8_bankOf_8 (0 : Int32) (by decide) ?_
    obtain rfl := Option.some.inj hF
    exact rx_iret C dX8_bankOf_9 (Nat.le_refl _) (Nat.le_refl _) ⟨rfl, rfl⟩
  · rw [if_neg c1] at hF
    refine rx_iconst C dX8_bankOf_4 (1 : Int32) (by decide) ?_
    refine rx_goto C dX8_bankOf_5 9 (by decide) ?_
    obtain rfl := Option.some.inj hF
    exact rx_iret C dX8_bankOf_9 (Nat.le_refl _) (Nat.le_refl _) ⟨rfl, rfl⟩
def F_X8_groundCoins (oB : ob) (op : ob) (x1 : Int32) : Option (Int32) := (F_X8_bankOf x1).bind fun y1 => some ((rx_at 2 (op.2 4) y1))
set_option maxRecDepth 100000 in
set_option maxHeartbeats 4000000 in
theorem w_X8_groundCoins {b : Nat} {oB : ob} {op : ob} {x1 : Int32} {y : Int32} (hF : F_X8_groundCoins oB op x1 = some y) (b_B : bB k b oB h) (b_p : bP k (b + 21) (b + 12) op h) : Met l yX8_groundCoins (rx_ws yX8_groundCoins cX8_groundCoins 2 (some .int)) (rx_rm 1 21) (va_Pc [.ref b, .int x1] (rx_G G k h n)) (va_Qi (fun r u => y = r ∧ u = (h, n)) (rx_B G k) (rx_A k)) 0 0 (rx_A k) := by
  refine rx_start [(0, .ref b), (1, .int x1)] rfl (Nat.le_of_ble_eq_true rfl) (by decide) rfl (fun P9 E9 S9 M9 A9 B9 me9 c9 C hname => ?_)
  unfold F_X8_groundCoins at hF
  refine rx_aload_n C dX8_groundCoins_0 0 rfl ?_
  refine rx_getf C f_X8_31 dX8_groundCoins_1 b_B rfl ?_
  refine rx_getfN C f_X8_129 dX8_groundCoins_4 b_p.1 rfl ?_
  refine rx_iload_n C dX8_groundCoins_7 1 rfl ?_
  replace hF := rx_biE hF; obtain ⟨y1, e_y1, hF⟩ := hF
  refine rx_ci (rx_rS C (w_X8_bankOf e_y1 ) Y_X8_bankOf S_X8_bankOf m_X8_132 ⟨⟨rfl, rfl⟩, ⟨(Nat.le_of_ble_eq_true rfl), (Nat.le_of_ble_eq_true rfl)⟩, ⟨(Nat.le_of_ble_eq_true rfl), (Nat.le_of_ble_eq_true rfl)⟩⟩ rfl rfl (Nat.le_of_ble_eq_true rfl) dX8_groundCoins_8) (fun r hh n1 hpp => ?_)
  obtain ⟨rfl, hu⟩ := hpp
  cases hu
  refine rx_ci (rx_rS C (w_at b_p.2.1 (by decide)) Y_X8_at S_X8_at m_X8_136 ⟨⟨rfl, rfl⟩, ⟨(Nat.le_of_ble_eq_true rfl), (Nat.le_of_ble_eq_true rfl)⟩, ⟨(Nat.le_of_ble_eq_true rfl), (Nat.le_of_ble_eq_true rfl)⟩⟩ rfl rfl (Nat.le_of_ble_eq_true rfl) dX8_groundCoins_11) (fun r hh n1 hpp => ?_)
  obtain ⟨rfl, hu⟩ := hpp
  cases hu
  obtain rfl := Option.some.inj hF
  exact rx_iret C dX8_groundCoins_14 (Nat.le_refl _) (Nat.le_refl _) ⟨rfl, rfl⟩
def F_X8_kingCount (oB : ob) (os : ob) : Option (Int32) := (F_X5_kingsInAll os).bind fun y1 => some y1
set_option maxRecDepth 100000 in
set_option maxHeartbeats 4000000 in
theorem w_X8_kingCount {b : Nat} {oB : ob} {os : ob} {y : Int32} (hF : F_X8_kingCount oB os = some y) (b_B : bB k b oB h) (b_s : bS k (b + 12) os h) : Met l yX8_kingCount (rx_ws yX8_kingCount cX8_kingCount 1 (some .int)) (rx_rm 2 43) (va_Pc [.ref b] (rx_G G k h n)) (va_Qi (fun r u => y = r ∧ u = (h, n)) (rx_B G k) (rx_A k)) 0 0 (rx_A k) := by
  refine rx_start [(0, .ref b)] rfl (Nat.le_of_ble_eq_true rfl) (by decide) rfl (fun P9 E9 S9 M9 A9 B9 me9 c9 C hname => ?_)
  unfold F_X8_kingCount at hF
  refine rx_aload_n C dX8_kingCount_0 0 rfl ?_
  refine rx_getf C f_X8_23 dX8_kingCount_1 b_B rfl ?_
  replace hF := rx_biE hF; obtain ⟨y1, e_y1, hF⟩ := hF
  refine rx_ci (rx_rVN C (w_X5_kingsInAll e_y1 b_s) Y_X5_kingsInAll V_X5_kingsInAll m_X8_140 (Or.inl ⟨_, _, _, _, b_s.1, rfl⟩) ⟨⟨rfl, rfl⟩, ⟨(Nat.le_of_ble_eq_true rfl), (Nat.le_of_ble_eq_true rfl)⟩, ⟨(Nat.le_of_ble_eq_true rfl), (Nat.le_of_ble_eq_true rfl)⟩⟩ rfl rfl (Nat.le_of_ble_eq_true rfl) dX8_kingCount_4) (fun r hh n1 hpp => ?_)
  obtain ⟨rfl, hu⟩ := hpp
  cases hu
  obtain rfl := Option.some.inj hF
  exact rx_iret C dX8_kingCount_7 (Nat.le_refl _) (Nat.le_refl _) ⟨rfl, rfl⟩
def F_X8_bankCount (oB : ob) (os : ob) (op : ob) (x1 : Int32) : Option (Int32) := (F_X8_bankOf x1).bind fun y1 => (F_X2_peopleOn op os y1).bind fun y2 => some y2
set_option maxRecDepth 100000 in
set_option maxHeartbeats 4000000 in
theorem w_X8_bankCount {b : Nat} {oB : ob} {os : ob} {op : ob} {x1 : Int32} {y : Int32} (hF : F_X8_bankCount oB os op x1 = some y) (b_B : bB k b oB h) (b_s : bS k (b + 12) os h) (b_p : bP k (b + 21) (b + 12) op h) : Met l yX8_bankCount (rx_ws yX8_bankCount cX8_bankCount 2 (some .int)) (rx_rm 2 44) (va_Pc [.ref b, .int x1] (rx_G G k h n)) (va_Qi (fun r u => y = r ∧ u = (h, n)) (rx_B G k) (rx_A k)) 0 0 (rx_A k) := by
  refine rx_start [(0, .ref b), (1, .int x1)] rfl (Nat.le_of_ble_eq_true rfl) (by decide) rfl (fun P9 E9 S9 M9 A9 B9 me9 c9 C hname => ?_)
  unfold F_X8_bankCount at hF
  refine rx_aload_n C dX8_bankCount_0 0 rfl ?_
  refine rx_getf C f_X8_31 dX8_bankCount_1 b_B rfl ?_
  refine rx_iload_n C dX8_bankCount_4 1 rfl ?_
  replace hF := rx_biE hF; obtain ⟨y1, e_y1, hF⟩ := hF
  refine rx_ci (rx_rS C (w_X8_bankOf e_y1 ) Y_X8_bankOf S_X8_bankOf m_X8_132 ⟨⟨rfl, rfl⟩, ⟨(Nat.le_of_ble_eq_true rfl), (Nat.le_of_ble_eq_true rfl)⟩, ⟨(Nat.le_of_ble_eq_true rfl), (Nat.le_of_ble_eq_true rfl)⟩⟩ rfl rfl (Nat.le_of_ble_eq_true rfl) dX8_bankCount_5) (fun r hh n1 hpp => ?_)
  obtain ⟨rfl, hu⟩ := hpp
  cases hu
  replace hF := rx_biE hF; obtain ⟨y2, e_y2, hF⟩ := hF
  refine rx_ci (rx_rVN C (w_X2_peopleOn e_y2 b_p b_s (by omega)) Y_X2_peopleOn V_X2_peopleOn m_X8_144 (Or.inl ⟨_, _, _, _, b_p.1, rfl⟩) ⟨⟨rfl, rfl⟩, ⟨(Nat.le_of_ble_eq_true rfl), (Nat.le_of_ble_eq_true rfl)⟩, ⟨(Nat.le_of_ble_eq_true rfl), (Nat.le_of_ble_eq_true rfl)⟩⟩ rfl rfl (Nat.le_of_ble_eq_true rfl) dX8_bankCount_8) (fun r hh n1 hpp => ?_)
  obtain ⟨rfl, hu⟩ := hpp
  cases hu
  obtain rfl := Option.some.inj hF
  exact rx_iret C dX8_bankCount_11 (Nat.le_refl _) (Nat.le_refl _) ⟨rfl, rfl⟩
def F_X8_requirePerson (oB : ob) (os : ob) (x1 : Int32) : Option (Unit) := (F_X5_hasPerson os x1).bind fun y1 => if y1 = (0 : Int32) then (none) else (some ())
set_option maxRecDepth 100000 in
set_option maxHeartbeats 4000000 in
theorem w_X8_requirePerson {b : Nat} {oB : ob} {os : ob} {x1 : Int32} {y : Unit} (hF : F_X8_requirePerson oB os x1 = some y) (b_B : bB k b oB h) (b_s : bS k (b + 12) os h) : Met l yX8_requirePerson (rx_ws yX8_requirePerson cX8_requirePerson 2 none) (rx_rm 1 21) (va_Pc [.ref b, .int x1] (rx_G G k h n)) (va_Qv (fun u => u = (h, n)) (rx_B G k) (rx_A k)) 0 0 (rx_A k) := by
  refine rx_start [(0, .ref b), (1, .int x1)] rfl (Nat.le_of_ble_eq_true rfl) (by decide) rfl (fun P9 E9 S9 M9 A9 B9 me9 c9 C hname => ?_)
  unfold F_X8_requirePerson at hF
  refine rx_aload_n C dX8_requirePerson_0 0 rfl ?_
  refine rx_getf C f_X8_23 dX8_requirePerson_1 b_B rfl ?_
  refine rx_iload_n C dX8_requirePerson_4 1 rfl ?_
  replace hF := rx_biE hF; obtain ⟨y1, e_y1, hF⟩ := hF
  refine rx_ci (rx_rVN C (w_X5_hasPerson e_y1 b_s) Y_X5_hasPerson V_X5_hasPerson m_X8_385 (Or.inl ⟨_, _, _, _, b_s.1, rfl⟩) ⟨⟨rfl, rfl⟩, ⟨(Nat.le_of_ble_eq_true rfl), (Nat.le_of_ble_eq_true rfl)⟩, ⟨(Nat.le_of_ble_eq_true rfl), (Nat.le_of_ble_eq_true rfl)⟩⟩ rfl rfl (Nat.le_of_ble_eq_true rfl) dX8_requirePerson_5) (fun r hh n1 hpp => ?_)
  obtain ⟨rfl, bo_y1, hu⟩ := hpp
  cases hu
  refine rx_if_ne C dX8_requirePerson_8 22 (by decide) (fun c2 => ?_) (fun c2 => ?_)
  · rw [if_neg c2] at hF
    obtain rfl := Option.some.inj hF
    exact rx_vret C dX8_requirePerson_22 (Nat.le_refl _) (Nat.le_refl _) rfl
  · rw [if_pos c2] at hF
    cases hF
def F_X8_isKing (oB : ob) (os : ob) (x1 : Int32) : Option (Int32) := (F_X8_requirePerson oB os x1).bind fun y1 => (F_X5_hasKing os x1).bind fun y2 => some y2
set_option maxRecDepth 100000 in
set_option maxHeartbeats 4000000 in
theorem w_X8_isKing {b : Nat} {oB : ob} {os : ob} {x1 : Int32} {y : Int32} (hF : F_X8_isKing oB os x1 = some y) (b_B : bB k b oB h) (b_s : bS k (b + 12) os h) : Met l yX8_isKing (rx_ws yX8_isKing cX8_isKing 2 (some .boolean)) (rx_rm 2 42) (va_Pc [.ref b, .int x1] (rx_G G k h n)) (va_Qi (fun r u => y = r ∧ (y = 0 ∨ y = 1) ∧ u = (h, n)) (rx_B G k) (rx_A k)) 0 0 (rx_A k) := by
  refine rx_start [(0, .ref b), (1, .int x1)] rfl (Nat.le_of_ble_eq_true rfl) (by decide) rfl (fun P9 E9 S9 M9 A9 B9 me9 c9 C hname => ?_)
  unfold F_X8_isKing at hF
  refine rx_aload_n C dX8_isKing_0 0 rfl ?_
  refine rx_iload_n C dX8_isKing_1 1 rfl ?_
  replace hF := rx_biE hF; obtain ⟨y1, e_y1, hF⟩ := hF
  refine rx_cv (rx_rV C (w_X8_requirePerson e_y1 b_B b_s) Y_X8_requirePerson V_X8_requirePerson m_X8_148 (Or.inl ⟨_, _, _, _, b_B, rfl⟩) ⟨⟨rfl, rfl⟩, ⟨(Nat.le_of_ble_eq_true rfl), (Nat.le_of_ble_eq_true rfl)⟩, ⟨(Nat.le_of_ble_eq_true rfl), (Nat.le_of_ble_eq_true rfl)⟩⟩ rfl rfl (Nat.le_of_ble_eq_true rfl) dX8_isKing_2) (fun hh n1 hpp => ?_)
  have hu := hpp
  cases hu
  refine rx_aload_n C dX8_isKing_5 0 rfl ?_
  refine rx_getf C f_X8_23 dX8_isKing_6 b_B rfl ?_
  refine rx_iload_n C dX8_isKing_9 1 rfl ?_
  replace hF := rx_biE hF; obtain ⟨y2, e_y2, hF⟩ := hF
  refine rx_ci (rx_rVN C (w_X5_hasKing e_y2 b_s) Y_X5_hasKing V_X5_hasKing m_X8_151 (Or.inl ⟨_, _, _, _, b_s.1, rfl⟩) ⟨⟨rfl, rfl⟩, ⟨(Nat.le_of_ble_eq_true rfl), (Nat.le_of_ble_eq_true rfl)⟩, ⟨(Nat.le_of_ble_eq_true rfl), (Nat.le_of_ble_eq_true rfl)⟩⟩ rfl rfl (Nat.le_of_ble_eq_true rfl) dX8_isKing_10) (fun r hh n1 hpp => ?_)
  obtain ⟨rfl, bo_y2, hu⟩ := hpp
  cases hu
  obtain rfl := Option.some.inj hF
  exact rx_zret C (rx_nz bo_y2) dX8_isKing_13 (Nat.le_refl _) (Nat.le_refl _) ⟨rfl, bo_y2, rfl⟩
def F_X8_isEast (oB : ob) (os : ob) (op : ob) (x1 : Int32) : Option (Int32) := (F_X8_requirePerson oB os x1).bind fun y1 => if (rx_at 10 (op.2 5) x1) = (1 : Int32) then (some ((1 : Int32))) else (some ((0 : Int32)))
set_option maxRecDepth 100000 in
set_option maxHeartbeats 4000000 in
theorem w_X8_isEast {b : Nat} {oB : ob} {os : ob} {op : ob} {x1 : Int32} {y : Int32} (hF : F_X8_isEast oB os op x1 = some y) (b_B : bB k b oB h) (b_s : bS k (b + 12) os h) (b_p : bP k (b + 21) (b + 12) op h) : Met l yX8_isEast (rx_ws yX8_isEast cX8_isEast 2 (some .boolean)) (rx_rm 2 42) (va_Pc [.ref b, .int x1] (rx_G G k h n)) (va_Qi (fun r u => y = r ∧ (y = 0 ∨ y = 1) ∧ u = (h, n)) (rx_B G k) (rx_A k)) 0 0 (rx_A k) := by
  refine rx_start [(0, .ref b), (1, .int x1)] rfl (Nat.le_of_ble_eq_true rfl) (by decide) rfl (fun P9 E9 S9 M9 A9 B9 me9 c9 C hname => ?_)
  unfold F_X8_isEast at hF
  refine rx_aload_n C dX8_isEast_0 0 rfl ?_
  refine rx_iload_n C dX8_isEast_1 1 rfl ?_
  replace hF := rx_biE hF; obtain ⟨y1, e_y1, hF⟩ := hF
  refine rx_cv (rx_rV C (w_X8_requirePerson e_y1 b_B b_s) Y_X8_requirePerson V_X8_requirePerson m_X8_148 (Or.inl ⟨_, _, _, _, b_B, rfl⟩) ⟨⟨rfl, rfl⟩, ⟨(Nat.le_of_ble_eq_true rfl), (Nat.le_of_ble_eq_true rfl)⟩, ⟨(Nat.le_of_ble_eq_true rfl), (Nat.le_of_ble_eq_true rfl)⟩⟩ rfl rfl (Nat.le_of_ble_eq_true rfl) dX8_isEast_2) (fun hh n1 hpp => ?_)
  have hu := hpp
  cases hu
  refine rx_aload_n C dX8_isEast_5 0 rfl ?_
  refine rx_getf C f_X8_31 dX8_isEast_6 b_B rfl ?_
  refine rx_getfN C f_X8_155 dX8_isEast_9 b_p.1 rfl ?_
  refine rx_iload_n C dX8_isEast_12 1 rfl ?_
  refine rx_ci (rx_rS C (w_at b_p.2.2.1 (by decide)) Y_X8_at S_X8_at m_X8_136 ⟨⟨rfl, rfl⟩, ⟨(Nat.le_of_ble_eq_true rfl), (Nat.le_of_ble_eq_true rfl)⟩, ⟨(Nat.le_of_ble_eq_true rfl), (Nat.le_of_ble_eq_true rfl)⟩⟩ rfl rfl (Nat.le_of_ble_eq_true rfl) dX8_isEast_13) (fun r hh n1 hpp => ?_)
  obtain ⟨rfl, hu⟩ := hpp
  cases hu
  refine rx_iconst C dX8_isEast_16 (1 : Int32) (by decide) ?_
  refine rx_icmp_ne C dX8_isEast_17 24 (by decide) (fun c2 => ?_) (fun c2 => ?_)
  · rw [if_neg c2] at hF
    refine rx_iconst C dX8_isEast_24 (0 : Int32) (by decide) ?_
    obtain rfl := Option.some.inj hF
    exact rx_zret C (rx_nz (Or.inl rfl)) dX8_isEast_25 (Nat.le_refl _) (Nat.le_refl _) ⟨rfl, (Or.inl rfl), rfl⟩
  · rw [if_pos c2] at hF
    refine rx_iconst C dX8_isEast_20 (1 : Int32) (by decide) ?_
    refine rx_goto C dX8_isEast_21 25 (by decide) ?_
    obtain rfl := Option.some.inj hF
    exact rx_zret C (rx_nz (Or.inr rfl)) dX8_isEast_25 (Nat.le_refl _) (Nat.le_refl _) ⟨rfl, (Or.inr rfl), rfl⟩
def F_X8_coins (oB : ob) (os : ob) (op : ob) (x1 : Int32) : Option (Int32) := (F_X8_requirePerson oB os x1).bind fun y1 => some ((rx_at 10 (op.2 6) x1))
set_option maxRecDepth 100000 in
set_option maxHeartbeats 4000000 in
theorem w_X8_coins {b : Nat} {oB : ob} {os : ob} {op : ob} {x1 : Int32} {y : Int32} (hF : F_X8_coins oB os op x1 = some y) (b_B : bB k b oB h) (b_s : bS k (b + 12) os h) (b_p : bP k (b + 21) (b + 12) op h) : Met l yX8_coins (rx_ws yX8_coins cX8_coins 2 (some .int)) (rx_rm 2 42) (va_Pc [.ref b, .int x1] (rx_G G k h n)) (va_Qi (fun r u => y = r ∧ u = (h, n)) (rx_B G k) (rx_A k)) 0 0 (rx_A k) := by
  refine rx_start [(0, .ref b), (1, .int x1)] rfl (Nat.le_of_ble_eq_true rfl) (by decide) rfl (fun P9 E9 S9 M9 A9 B9 me9 c9 C hname => ?_)
  unfold F_X8_coins at hF
  refine rx_aload_n C dX8_coins_0 0 rfl ?_
  refine rx_iload_n C dX8_coins_1 1 rfl ?_
  replace hF := rx_biE hF; obtain ⟨y1, e_y1, hF⟩ := hF
  refine rx_cv (rx_rV C (w_X8_requirePerson e_y1 b_B b_s) Y_X8_requirePerson V_X8_requirePerson m_X8_148 (Or.inl ⟨_, _, _, _, b_B, rfl⟩) ⟨⟨rfl, rfl⟩, ⟨(Nat.le_of_ble_eq_true rfl), (Nat.le_of_ble_eq_true rfl)⟩, ⟨(Nat.le_of_ble_eq_true rfl), (Nat.le_of_ble_eq_true rfl)⟩⟩ rfl rfl (Nat.le_of_ble_eq_true rfl) dX8_coins_2) (fun hh n1 hpp => ?_)
  have hu := hpp
  cases hu
  refine rx_aload_n C dX8_coins_5 0 rfl ?_
  refine rx_getf C f_X8_31 dX8_coins_6 b_B rfl ?_
  refine rx_getfN C f_X8_158 dX8_coins_9 b_p.1 rfl ?_
  refine rx_iload_n C dX8_coins_12 1 rfl ?_
  refine rx_ci (rx_rS C (w_at b_p.2.2.2.1 (by decide)) Y_X8_at S_X8_at m_X8_136 ⟨⟨rfl, rfl⟩, ⟨(Nat.le_of_ble_eq_true rfl), (Nat.le_of_ble_eq_true rfl)⟩, ⟨(Nat.le_of_ble_eq_true rfl), (Nat.le_of_ble_eq_true rfl)⟩⟩ rfl rfl (Nat.le_of_ble_eq_true rfl) dX8_coins_13) (fun r hh n1 hpp => ?_)
  obtain ⟨rfl, hu⟩ := hpp
  cases hu
  obtain rfl := Option.some.inj hF
  exact rx_iret C dX8_coins_16 (Nat.le_refl _) (Nat.le_refl _) ⟨rfl, rfl⟩
def F_X8_rags (oB : ob) (os : ob) (op : ob) (x1 : Int32) : Option (Int32) := (F_X8_requirePerson oB os x1).bind fun y1 => some ((rx_at 10 (op.2 8) x1))
set_option maxRecDepth 100000 in
set_option maxHeartbeats 4000000 in
theorem w_X8_rags {b : Nat} {oB : ob} {os : ob} {op : ob} {x1 : Int32} {y : Int32} (hF : F_X8_rags oB os op x1 = some y) (b_B : bB k b oB h) (b_s : bS k (b + 12) os h) (b_p : bP k (b + 21) (b + 12) op h) : Met l yX8_rags (rx_ws yX8_rags cX8_rags 2 (some .int)) (rx_rm 2 42) (va_Pc [.ref b, .int x1] (rx_G G k h n)) (va_Qi (fun r u => y = r ∧ u = (h, n)) (rx_B G k) (rx_A k)) 0 0 (rx_A k) := by
  refine rx_start [(0, .ref b), (1, .int x1)] rfl (Nat.le_of_ble_eq_true rfl) (by decide) rfl (fun P9 E9 S9 M9 A9 B9 me9 c9 C hname => ?_)
  unfold F_X8_rags at hF
  refine rx_aload_n C dX8_rags_0 0 rfl ?_
  refine rx_iload_n C dX8_rags_1 1 rfl ?_
  replace hF := rx_biE hF; obtain ⟨y1, e_y1, hF⟩ := hF
  refine rx_cv (rx_rV C (w_X8_requirePerson e_y1 b_B b_s) Y_X8_requirePerson V_X8_requirePerson m_X8_148 (Or.inl ⟨_, _, _, _, b_B, rfl⟩) ⟨⟨rfl, rfl⟩, ⟨(Nat.le_of_ble_eq_true rfl), (Nat.le_of_ble_eq_true rfl)⟩, ⟨(Nat.le_of_ble_eq_true rfl), (Nat.le_of_ble_eq_true rfl)⟩⟩ rfl rfl (Nat.le_of_ble_eq_true rfl) dX8_rags_2) (fun hh n1 hpp => ?_)
  have hu := hpp
  cases hu
  refine rx_aload_n C dX8_rags_5 0 rfl ?_
  refine rx_getf C f_X8_31 dX8_rags_6 b_B rfl ?_
  refine rx_getfN C f_X8_164 dX8_rags_9 b_p.1 rfl ?_
  refine rx_iload_n C dX8_rags_12 1 rfl ?_
  refine rx_ci (rx_rS C (w_at b_p.2.2.2.2.2.1 (by decide)) Y_X8_at S_X8_at m_X8_136 ⟨⟨rfl, rfl⟩, ⟨(Nat.le_of_ble_eq_true rfl), (Nat.le_of_ble_eq_true rfl)⟩, ⟨(Nat.le_of_ble_eq_true rfl), (Nat.le_of_ble_eq_true rfl)⟩⟩ rfl rfl (Nat.le_of_ble_eq_true rfl) dX8_rags_13) (fun r hh n1 hpp => ?_)
  obtain ⟨rfl, hu⟩ := hpp
  cases hu
  obtain rfl := Option.some.inj hF
  exact rx_iret C dX8_rags_16 (Nat.le_refl _) (Nat.le_refl _) ⟨rfl, rfl⟩
def F_X8_wearer (oB : ob) (os : ob) (op : ob) (x1 : Int32) : Option (Int32) := (F_X8_requirePerson oB os x1).bind fun y1 => (F_X2_wearerOf op os x1).bind fun y2 => some y2
set_option maxRecDepth 100000 in
set_option maxHeartbeats 4000000 in
theorem w_X8_wearer {b : Nat} {oB : ob} {os : ob} {op : ob} {x1 : Int32} {y : Int32} (hF : F_X8_wearer oB os op x1 = some y) (b_B : bB k b oB h) (b_s : bS k (b + 12) os h) (b_p : bP k (b + 21) (b + 12) op h) : Met l yX8_wearer (rx_ws yX8_wearer cX8_wearer 2 (some .int)) (rx_rm 2 43) (va_Pc [.ref b, .int x1] (rx_G G k h n)) (va_Qi (fun r u => y = r ∧ u = (h, n)) (rx_B G k) (rx_A k)) 0 0 (rx_A k) := by
  refine rx_start [(0, .ref b), (1, .int x1)] rfl (Nat.le_of_ble_eq_true rfl) (by decide) rfl (fun P9 E9 S9 M9 A9 B9 me9 c9 C hname => ?_)
  unfold F_X8_wearer at hF
  refine rx_aload_n C dX8_wearer_0 0 rfl ?_
  refine rx_iload_n C dX8_wearer_1 1 rfl ?_
  replace hF := rx_biE hF; obtain ⟨y1, e_y1, hF⟩ := hF
  refine rx_cv (rx_rV C (w_X8_requirePerson e_y1 b_B b_s) Y_X8_requirePerson V_X8_requirePerson m_X8_148 (Or.inl ⟨_, _, _, _, b_B, rfl⟩) ⟨⟨rfl, rfl⟩, ⟨(Nat.le_of_ble_eq_true rfl), (Nat.le_of_ble_eq_true rfl)⟩, ⟨(Nat.le_of_ble_eq_true rfl), (Nat.le_of_ble_eq_true rfl)⟩⟩ rfl rfl (Nat.le_of_ble_eq_true rfl) dX8_wearer_2) (fun hh n1 hpp => ?_)
  have hu := hpp
  cases hu
  refine rx_aload_n C dX8_wearer_5 0 rfl ?_
  refine rx_getf C f_X8_31 dX8_wearer_6 b_B rfl ?_
  refine rx_iload_n C dX8_wearer_9 1 rfl ?_
  replace hF := rx_biE hF; obtain ⟨y2, e_y2, hF⟩ := hF
  refine rx_ci (rx_rVN C (w_X2_wearerOf e_y2 b_p b_s (by omega)) Y_X2_wearerOf V_X2_wearerOf m_X8_170 (Or.inl ⟨_, _, _, _, b_p.1, rfl⟩) ⟨⟨rfl, rfl⟩, ⟨(Nat.le_of_ble_eq_true rfl), (Nat.le_of_ble_eq_true rfl)⟩, ⟨(Nat.le_of_ble_eq_true rfl), (Nat.le_of_ble_eq_true rfl)⟩⟩ rfl rfl (Nat.le_of_ble_eq_true rfl) dX8_wearer_10) (fun r hh n1 hpp => ?_)
  obtain ⟨rfl, hu⟩ := hpp
  cases hu
  obtain rfl := Option.some.inj hF
  exact rx_iret C dX8_wearer_13 (Nat.le_refl _) (Nat.le_refl _) ⟨rfl, rfl⟩
def F_X8_crossings (oB : ob) (os : ob) (op : ob) (x1 : Int32) : Option (Int32) := (F_X8_requirePerson oB os x1).bind fun y1 => some ((rx_at 10 (op.2 9) x1))
set_option maxRecDepth 100000 in
set_option maxHeartbeats 4000000 in
theorem w_X8_crossings {b : Nat} {oB : ob} {os : ob} {op : ob} {x1 : Int32} {y : Int32} (hF : F_X8_crossings oB os op x1 = some y) (b_B : bB k b oB h) (b_s : bS k (b + 12) os h) (b_p : bP k (b + 21) (b + 12) op h) : Met l yX8_crossings (rx_ws yX8_crossings cX8_crossings 2 (some .int)) (rx_rm 2 42) (va_Pc [.ref b, .int x1] (rx_G G k h n)) (va_Qi (fun r u => y = r ∧ u = (h, n)) (rx_B G k) (rx_A k)) 0 0 (rx_A k) := by
  refine rx_start [(0, .ref b), (1, .int x1)] rfl (Nat.le_of_ble_eq_true rfl) (by decide) rfl (fun P9 E9 S9 M9 A9 B9 me9 c9 C hname => ?_)
  unfold F_X8_crossings at hF
  refine rx_aload_n C dX8_crossings_0 0 rfl ?_
  refine rx_iload_n C dX8_crossings_1 1 rfl ?_
  replace hF := rx_biE hF; obtain ⟨y1, e_y1, hF⟩ := hF
  refine rx_cv (rx_rV C (w_X8_requirePerson e_y1 b_B b_s) Y_X8_requirePerson V_X8_requirePerson m_X8_148 (Or.inl ⟨_, _, _, _, b_B, rfl⟩) ⟨⟨rfl, rfl⟩, ⟨(Nat.le_of_ble_eq_true rfl), (Nat.le_of_ble_eq_true rfl)⟩, ⟨(Nat.le_of_ble_eq_true rfl), (Nat.le_of_ble_eq_true rfl)⟩⟩ rfl rfl (Nat.le_of_ble_eq_true rfl) dX8_crossings_2) (fun hh n1 hpp => ?_)
  have hu := hpp
  cases hu
  refine rx_aload_n C dX8_crossings_5 0 rfl ?_
  refine rx_getf C f_X8_31 dX8_crossings_6 b_B rfl ?_
  refine rx_getfN C f_X8_173 dX8_crossings_9 b_p.1 rfl ?_
  refine rx_iload_n C dX8_crossings_12 1 rfl ?_
  refine rx_ci (rx_rS C (w_at b_p.2.2.2.2.2.2.1 (by decide)) Y_X8_at S_X8_at m_X8_136 ⟨⟨rfl, rfl⟩, ⟨(Nat.le_of_ble_eq_true rfl), (Nat.le_of_ble_eq_true rfl)⟩, ⟨(Nat.le_of_ble_eq_true rfl), (Nat.le_of_ble_eq_true rfl)⟩⟩ rfl rfl (Nat.le_of_ble_eq_true rfl) dX8_crossings_13) (fun r hh n1 hpp => ?_)
  obtain ⟨rfl, hu⟩ := hpp
  cases hu
  obtain rfl := Option.some.inj hF
  exact rx_iret C dX8_crossings_16 (Nat.le_refl _) (Nat.le_refl _) ⟨rfl, rfl⟩
def F_X8_requireKing (oB : ob) (os : ob) (x1 : Int32) : Option (Unit) := (F_X8_requirePerson oB os x1).bind fun y1 => (F_X5_hasKing os x1).bind fun y2 => if y2 = (0 : Int32) then (none) else (some ())
set_option maxRecDepth 100000 in
set_option maxHeartbeats 4000000 in
theorem w_X8_requireKing {b : Nat} {oB : ob} {os : ob} {x1 : Int32} {y : Unit} (hF : F_X8_requireKing oB os x1 = some y) (b_B : bB k b oB h) (b_s : bS k (b + 12) os h) : Met l yX8_requireKing (rx_ws yX8_requireKing cX8_requireKing 2 none) (rx_rm 2 42) (va_Pc [.ref b, .int x1] (rx_G G k h n)) (va_Qv (fun u => u = (h, n)) (rx_B G k) (rx_A k)) 0 0 (rx_A k) := by
  refine rx_start [(0, .ref b), (1, .int x1)] rfl (Nat.le_of_ble_eq_true rfl) (by decide) rfl (fun P9 E9 S9 M9 A9 B9 me9 c9 C hname => ?_)
  unfold F_X8_requireKing at hF
  refine rx_aload_n C dX8_requireKing_0 0 rfl ?_
  refine rx_iload_n C dX8_requireKing_1 1 rfl ?_
  replace hF := rx_biE hF; obtain ⟨y1, e_y1, hF⟩ := hF
  refine rx_cv (rx_rV C (w_X8_requirePerson e_y1 b_B b_s) Y_X8_requirePerson V_X8_requirePerson m_X8_148 (Or.inl ⟨_, _, _, _, b_B, rfl⟩) ⟨⟨rfl, rfl⟩, ⟨(Nat.le_of_ble_eq_true rfl), (Nat.le_of_ble_eq_true rfl)⟩, ⟨(Nat.le_of_ble_eq_true rfl), (Nat.le_of_ble_eq_true rfl)⟩⟩ rfl rfl (Nat.le_of_ble_eq_true rfl) dX8_requireKing_2) (fun hh n1 hpp => ?_)
  have hu := hpp
  cases hu
  refine rx_aload_n C dX8_requireKing_5 0 rfl ?_
  refine rx_getf C f_X8_23 dX8_requireKing_6 b_B rfl ?_
  refine rx_iload_n C dX8_requireKing_9 1 rfl ?_
  replace hF := rx_biE hF; obtain ⟨y2, e_y2, hF⟩ := hF
  refine rx_ci (rx_rVN C (w_X5_hasKing e_y2 b_s) Y_X5_hasKing V_X5_hasKing m_X8_151 (Or.inl ⟨_, _, _, _, b_s.1, rfl⟩) ⟨⟨rfl, rfl⟩, ⟨(Nat.le_of_ble_eq_true rfl), (Nat.le_of_ble_eq_true rfl)⟩, ⟨(Nat.le_of_ble_eq_true rfl), (Nat.le_of_ble_eq_true rfl)⟩⟩ rfl rfl (Nat.le_of_ble_eq_true rfl) dX8_requireKing_10) (fun r hh n1 hpp => ?_)
  obtain ⟨rfl, bo_y2, hu⟩ := hpp
  cases hu
  refine rx_if_ne C dX8_requireKing_13 27 (by decide) (fun c3 => ?_) (fun c3 => ?_)
  · rw [if_neg c3] at hF
    obtain rfl := Option.some.inj hF
    exact rx_vret C dX8_requireKing_27 (Nat.le_refl _) (Nat.le_refl _) rfl
  · rw [if_pos c3] at hF
    cases hF
end GEN
