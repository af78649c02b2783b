section GEN
variable {l : Launch} {G : va_G} {k : Nat → Nat} {h : hp} {n : Nat}
def F_X8_isAtPerson (ot : ob) : Option (Int32) := (F_X6_isAtWord ot 2).bind fun y1 => if y1 = (0 : Int32) then ((F_X6_isAtWord ot 3).bind fun y3 => if y3 = (0 : Int32) then (some ((0 : Int32))) else (some ((1 : Int32)))) else (some ((1 : Int32)))
set_option maxRecDepth 100000 in
set_option maxHeartbeats 4000000 in
theorem w_X8_isAtPerson {t : Nat} {ot : ob} {y : Int32} (hF : F_X8_isAtPerson ot = some y) (b_t : bT k t ot h) : Met l yX8_isAtPerson (rx_ws yX8_isAtPerson cX8_isAtPerson 1 (some .boolean)) (rx_rm 5 107) (va_Pc [.ref t] (rx_G G k h n)) (va_Qi (fun r u => y = r ∧ (y = 0 ∨ y = 1) ∧ u = (h, n)) (rx_B G k) (rx_A k)) 0 0 (rx_A k) := by
  refine rx_start [(0, .ref t)] rfl (Nat.le_of_ble_eq_true rfl) (by decide) rfl (fun P9 E9 S9 M9 A9 B9 me9 c9 C hname => ?_)
  unfold F_X8_isAtPerson at hF
  refine rx_aload_n C dX8_isAtPerson_0 0 rfl ?_
  refine rx_ldcSw (t := 2) C (List.mem_of_getElem? (i := 9) rfl) dX8_isAtPerson_1 ?_
  replace hF := rx_biE hF; obtain ⟨y1, e_y1, hF⟩ := hF
  refine rx_ci (rx_rVN C (w_X6_isAtWord e_y1 b_t (by decide)) Y_X6_isAtWord V_X6_isAtWord m_X8_440 (Or.inl ⟨_, _, _, _, b_t.1, rfl⟩) ⟨⟨rfl, rfl⟩, ⟨(Nat.le_of_ble_eq_true rfl), (Nat.le_of_ble_eq_true rfl)⟩, ⟨(Nat.le_of_ble_eq_true rfl), (Nat.le_of_ble_eq_true rfl)⟩⟩ rfl rfl (Nat.le_of_ble_eq_true rfl) dX8_isAtPerson_4) (fun r hh n1 hpp => ?_)
  obtain ⟨rfl, bo_y1, hu⟩ := hpp
  cases hu
  refine rx_if_ne C dX8_isAtPerson_7 20 (by decide) (fun c2 => ?_) (fun c2 => ?_)
  · rw [if_neg c2] at hF
    refine rx_iconst C dX8_isAtPerson_20 (1 : Int32) (by decide) ?_
    refine rx_goto C dX8_isAtPerson_21 25 (by decide) ?_
    obtain rfl := Option.some.inj hF
    exact rx_zret C (rx_nz (Or.inr rfl)) dX8_isAtPerson_25 (Nat.le_refl _) (Nat.le_refl _) ⟨rfl, (Or.inr rfl), rfl⟩
  · rw [if_pos c2] at hF
    refine rx_aload_n C dX8_isAtPerson_10 0 rfl ?_
    refine rx_ldcSw (t := 3) C (List.mem_of_getElem? (i := 10) rfl) dX8_isAtPerson_11 ?_
    replace hF := rx_biE hF; obtain ⟨y3, e_y3, hF⟩ := hF
    refine rx_ci (rx_rVN C (w_X6_isAtWord e_y3 b_t (by decide)) Y_X6_isAtWord V_X6_isAtWord m_X8_440 (Or.inl ⟨_, _, _, _, b_t.1, rfl⟩) ⟨⟨rfl, rfl⟩, ⟨(Nat.le_of_ble_eq_true rfl), (Nat.le_of_ble_eq_true rfl)⟩, ⟨(Nat.le_of_ble_eq_true rfl), (Nat.le_of_ble_eq_true rfl)⟩⟩ rfl rfl (Nat.le_of_ble_eq_true rfl) dX8_isAtPerson_14) (fun r hh n1 hpp => ?_)
    obtain ⟨rfl, bo_y3, hu⟩ := hpp
    cases hu
    refine rx_if_eq C dX8_isAtPerson_17 24 (by decide) (fun c4 => ?_) (fun c4 => ?_)
    · rw [if_pos c4] at hF
      refine rx_iconst C dX8_isAtPerson_24 (0 : Int32) (by decide) ?_
      obtain rfl := Option.some.inj hF
      exact rx_zret C (rx_nz (Or.inl rfl)) dX8_isAtPerson_25 (Nat.le_refl _) (Nat.le_refl _) ⟨rfl, (Or.inl rfl), rfl⟩
    · rw [if_neg c4] at hF
      refine rx_iconst C dX8_isAtPerson_20 (1 : Int32) (by decide) ?_
      refine rx_goto C dX8_isAtPerson_21 25 (by decide) ?_
      obtain rfl := Option.some.inj hF
      exact rx_zret C (rx_nz (Or.inr rfl)) dX8_isAtPerson_25 (Nat.le_refl _) (Nat.le_refl _) ⟨rfl, (Or.inr rfl), rfl⟩
def F_X8_readHeader (ot : ob) (ost : ob) : Option (ob × ob) := (F_X6_takeWord ot 1).bind fun y1 => (F_X6_takeNumber y1 ((0 : Int32)) ((90 : Int32))).bind fun y2 => (F_X6_takeNumber y2.2 ((0 : Int32)) ((9 : Int32))).bind fun y3 => (F_X6_takeNumber y3.2 ((0 : Int32)) ((99 : Int32))).bind fun y4 => (F_X6_takeNumber y4.2 ((0 : Int32)) ((99 : Int32))).bind fun y5 => (F_X6_takeSemicolon y5.2).bind fun y6 => (F_X5_begin ost y2.1 y3.1 y4.1 y5.1).bind fun y7 => some (y6, y7)
set_option maxRecDepth 100000 in
set_option maxHeartbeats 4000000 in
theorem w_X8_readHeader {t g : Nat} {ot : ob} {ost : ob} {y : ob × ob} (hF : F_X8_readHeader ot ost = some y) (b_t : bT k t ot h) (b_st : bS k g ost h) (hd0 : t + 2 ≤ g ∨ g + 9 ≤ t) : Met l yX8_readHeader (rx_ws yX8_readHeader cX8_readHeader 6 none) (rx_rm 6 128) (va_Pc [.ref t, .ref g] (rx_G G k h n)) (va_Qv (fun u => u.2 = n ∧ bT k t y.1 u.1 ∧ bS k g y.2 u.1 ∧ rx_fr [(t, 2), (g, 9)] h u.1) (rx_B G k) (rx_A k)) 0 0 (rx_A k) := by
  have s_st_t : g + 9 ≤ t ∨ t + 2 ≤ g := by omega
  have s_t_st : t + 2 ≤ g ∨ g + 9 ≤ t := by omega
  refine rx_start [(0, .ref t), (1, .ref g)] rfl (Nat.le_of_ble_eq_true rfl) (by decide) rfl (fun P9 E9 S9 M9 A9 B9 me9 c9 C hname => ?_)
  unfold F_X8_readHeader at hF
  have fr : rx_fr [(t, 2), (g, 9)] h h := rx_fr0
  refine rx_aload_n C dX8_readHeader_0 0 rfl ?_
  refine rx_ldcSw (t := 1) C (List.mem_of_getElem? (i := 8) rfl) dX8_readHeader_1 ?_
  replace hF := rx_biE hF; obtain ⟨y1, e_y1, hF⟩ := hF
  refine rx_cv (rx_rVN C (w_X6_takeWord e_y1 b_t (by decide)) Y_X6_takeWord V_X6_takeWord m_X8_419 (Or.inl ⟨_, _, _, _, b_t.1, rfl⟩) ⟨⟨rfl, rfl⟩, ⟨(Nat.le_of_ble_eq_true rfl), (Nat.le_of_ble_eq_true rfl)⟩, ⟨(Nat.le_of_ble_eq_true rfl), (Nat.le_of_ble_eq_true rfl)⟩⟩ rfl rfl (Nat.le_of_ble_eq_true rfl) dX8_readHeader_4) (fun hh n1 hpp => ?_)
  obtain ⟨hn, c_t, ff⟩ := hpp
  replace hn : n = n1 := Eq.symm hn
  subst hn
  replace b_t : bT k t y1 hh := c_t
  clear c_t
  replace ff : rx_fr [(t, 2)] _ hh := ff
  replace b_st := b_st.keep ff ⟨s_st_t, trivial⟩
  replace fr := rx_frt fr ff (fun a ha => ⟨ha.1, trivial⟩)
  refine rx_aload_n C dX8_readHeader_7 0 rfl ?_
  refine rx_iconst C dX8_readHeader_8 (0 : Int32) (by decide) ?_
  refine rx_bipush C dX8_readHeader_9 (90 : Int32) (by decide) ?_
  replace hF := rx_biE hF; obtain ⟨y2, e_y2, hF⟩ := hF
  refine rx_ci (rx_rVN C (w_X6_takeNumber e_y2 b_t) Y_X6_takeNumber V_X6_takeNumber m_X8_422 (Or.inl ⟨_, _, _, _, b_t.1, rfl⟩) ⟨⟨rfl, rfl⟩, ⟨(Nat.le_of_ble_eq_true rfl), (Nat.le_of_ble_eq_true rfl)⟩, ⟨(Nat.le_of_ble_eq_true rfl), (Nat.le_of_ble_eq_true rfl)⟩⟩ rfl rfl (Nat.le_of_ble_eq_true rfl) dX8_readHeader_11) (fun r hh n1 hpp => ?_)
  obtain ⟨rfl, hn, c_t, ff⟩ := hpp
  replace hn : n = n1 := Eq.symm hn
  subst hn
  replace b_t : bT k t y2.2 hh := c_t
  clear c_t
  replace ff : rx_fr [(t, 2)] _ hh := ff
  replace b_st := b_st.keep ff ⟨s_st_t, trivial⟩
  replace fr := rx_frt fr ff (fun a ha => ⟨ha.1, trivial⟩)
  refine rx_istore_n C dX8_readHeader_14 (by decide) [(2, .int y2.1), (0, .ref t), (1, .ref g)] rfl ?_
  refine rx_aload_n C dX8_readHeader_15 1 rfl ?_
  refine rx_iconst C dX8_readHeader_16 (0 : Int32) (by decide) ?_
  refine rx_bipush C dX8_readHeader_17 (9 : Int32) (by decide) ?_
  replace hF := rx_biE hF; obtain ⟨y3, e_y3, hF⟩ := hF
  refine rx_ci (rx_rVN C (w_X6_takeNumber e_y3 b_t) Y_X6_takeNumber V_X6_takeNumber m_X8_422 (Or.inl ⟨_, _, _, _, b_t.1, rfl⟩) ⟨⟨rfl, rfl⟩, ⟨(Nat.le_of_ble_eq_true rfl), (Nat.le_of_ble_eq_true rfl)⟩, ⟨(Nat.le_of_ble_eq_true rfl), (Nat.le_of_ble_eq_true rfl)⟩⟩ rfl rfl (Nat.le_of_ble_eq_true rfl) dX8_readHeader_19) (fun r hh n1 hpp => ?_)
  obtain ⟨rfl, hn, c_t, ff⟩ := hpp
  replace hn : n = n1 := Eq.symm hn
  subst hn
  replace b_t : bT k t y3.2 hh := c_t
  clear c_t
  replace ff : rx_fr [(t, 2)] _ hh := ff
  replace b_st := b_st.keep ff ⟨s_st_t, trivial⟩
  replace fr := rx_frt fr ff (fun a ha => ⟨ha.1, trivial⟩)
  refine rx_istore_n C dX8_readHeader_22 (by decide) [(3, .int y3.1), (2, .int y2.1), (0, .ref t), (1, .ref g)] rfl ?_
  refine rx_aload_n C dX8_readHeader_23 2 rfl ?_
  refine rx_iconst C dX8_readHeader_24 (0 : Int32) (by decide) ?_
  refine rx_bipush C dX8_readHeader_25 (99 : Int32) (by decide) ?_
  replace hF := rx_biE hF; obtain ⟨y4, e_y4, hF⟩ := hF
  refine rx_ci (rx_rVN C (w_X6_takeNumber e_y4 b_t) Y_X6_takeNumber V_X6_takeNumber m_X8_422 (Or.inl ⟨_, _, _, _, b_t.1, rfl⟩) ⟨⟨rfl, rfl⟩, ⟨(Nat.le_of_ble_eq_true rfl), (Nat.le_of_ble_eq_true rfl)⟩, ⟨(Nat.le_of_ble_eq_true rfl), (Nat.le_of_ble_eq_true rfl)⟩⟩ rfl rfl (Nat.le_of_ble_eq_true rfl) dX8_readHeader_27) (fun r hh n1 hpp => ?_)
  obtain ⟨rfl, hn, c_t, ff⟩ := hpp
  replace hn : n = n1 := Eq.symm hn
  subst hn
  replace b_t : bT k t y4.2 hh := c_t
  clear c_t
  replace ff : rx_fr [(t, 2)] _ hh := ff
  replace b_st := b_st.keep ff ⟨s_st_t, trivial⟩
  replace fr := rx_frt fr ff (fun a ha => ⟨ha.1, trivial⟩)
  refine rx_istore C dX8_readHeader_30 (by decide) [(4, .int y4.1), (3, .int y3.1), (2, .int y2.1), (0, .ref t), (1, .ref g)] rfl ?_
  refine rx_aload_n C dX8_readHeader_32 3 rfl ?_
  refine rx_iconst C dX8_readHeader_33 (0 : Int32) (by decide) ?_
  refine rx_bipush C dX8_readHeader_34 (99 : Int32) (by decide) ?_
  replace hF := rx_biE hF; obtain ⟨y5, e_y5, hF⟩ := hF
  refine rx_ci (rx_rVN C (w_X6_takeNumber e_y5 b_t) Y_X6_takeNumber V_X6_takeNumber m_X8_422 (Or.inl ⟨_, _, _, _, b_t.1, rfl⟩) ⟨⟨rfl, rfl⟩, ⟨(Nat.le_of_ble_eq_true rfl), (Nat.le_of_ble_eq_true rfl)⟩, ⟨(Nat.le_of_ble_eq_true rfl), (Nat.le_of_ble_eq_true rfl)⟩⟩ rfl rfl (Nat.le_of_ble_eq_true rfl) dX8_readHeader_36) (fun r hh n1 hpp => ?_)
  obtain ⟨rfl, hn, c_t, ff⟩ := hpp
  replace hn : n = n1 := Eq.symm hn
  subst hn
  replace b_t : bT k t y5.2 hh := c_t
  clear c_t
  replace ff : rx_fr [(t, 2)] _ hh := ff
  replace b_st := b_st.keep ff ⟨s_st_t, trivial⟩
  replace fr := rx_frt fr ff (fun a ha => ⟨ha.1, trivial⟩)
  refine rx_istore C dX8_readHeader_39 (by decide) [(5, .int y5.1), (4, .int y4.1), (3, .int y3.1), (2, .int y2.1), (0, .ref t), (1, .ref g)] rfl ?_
  refine rx_aload_n C dX8_readHeader_41 4 rfl ?_
  replace hF := rx_biE hF; obtain ⟨y6, e_y6, hF⟩ := hF
  refine rx_cv (rx_rVN C (w_X6_takeSemicolon e_y6 b_t) Y_X6_takeSemicolon V_X6_takeSemicolon m_X8_425 (Or.inl ⟨_, _, _, _, b_t.1, rfl⟩) ⟨⟨rfl, rfl⟩, ⟨(Nat.le_of_ble_eq_true rfl), (Nat.le_of_ble_eq_true rfl)⟩, ⟨(Nat.le_of_ble_eq_true rfl), (Nat.le_of_ble_eq_true rfl)⟩⟩ rfl rfl (Nat.le_of_ble_eq_true rfl) dX8_readHeader_42) (fun hh n1 hpp => ?_)
  obtain ⟨hn, c_t, ff⟩ := hpp
  replace hn : n = n1 := Eq.symm hn
  subst hn
  replace b_t : bT k t y6 hh := c_t
  clear c_t
  replace ff : rx_fr [(t, 2)] _ hh := ff
  replace b_st := b_st.keep ff ⟨s_st_t, trivial⟩
  replace fr := rx_frt fr ff (fun a ha => ⟨ha.1, trivial⟩)
  refine rx_aload_n C dX8_readHeader_45 5 rfl ?_
  refine rx_iload_n C dX8_readHeader_46 3 rfl ?_
  refine rx_iload_n C dX8_readHeader_47 2 rfl ?_
  refine rx_iload C dX8_readHeader_48 1 rfl ?_
  refine rx_iload C dX8_readHeader_50 0 rfl ?_
  replace hF := rx_biE hF; obtain ⟨y7, e_y7, hF⟩ := hF
  refine rx_cv (rx_rVN C (w_X5_begin e_y7 b_st) Y_X5_begin V_X5_begin m_X8_59 (Or.inl ⟨_, _, _, _, b_st.1, rfl⟩) ⟨⟨rfl, rfl⟩, ⟨(Nat.le_of_ble_eq_true rfl), (Nat.le_of_ble_eq_true rfl)⟩, ⟨(Nat.le_of_ble_eq_true rfl), (Nat.le_of_ble_eq_true rfl)⟩⟩ rfl rfl (Nat.le_of_ble_eq_true rfl) dX8_readHeader_52) (fun hh n1 hpp => ?_)
  obtain ⟨hn, c_st, ff⟩ := hpp
  replace hn : n = n1 := Eq.symm hn
  subst hn
  replace b_st : bS k g y7 hh := c_st
  clear c_st
  replace ff : rx_fr [(g, 9)] _ hh := ff
  replace b_t := b_t.keep ff ⟨s_t_st, trivial⟩
  replace fr := rx_frt fr ff (fun a ha => ⟨ha.2.1, trivial⟩)
  obtain rfl := Option.some.inj hF
  exact rx_vret C dX8_readHeader_55 (Nat.le_refl _) (Nat.le_refl _) ⟨rfl, b_t, b_st, fr⟩
def F_X8_readPerson (ot : ob) (ost : ob) : Option (ob × ob) := (F_X6_takeEither ot 3 2).bind fun y1 => (F_X6_takeEither y1.2 4 5).bind fun y2 => (F_X6_takeNumber y2.2 ((0 : Int32)) ((999 : Int32))).bind fun y3 => (F_X6_takeNumber y3.2 ((0 : Int32)) ((40 : Int32))).bind fun y4 => (F_X6_takeNumber y4.2 ((0 : Int32)) ((50 : Int32))).bind fun y5 => (F_X6_takeSemicolon y5.2).bind fun y6 => (F_X5_addPerson ost y1.1 y2.1 y3.1 y4.1 y5.1).bind fun y7 => some (y6, y7)
set_option maxRecDepth 100000 in
set_option maxHeartbeats 4000000 in
theorem w_X8_readPerson {t g : Nat} {ot : ob} {ost : ob} {y : ob × ob} (hF : F_X8_readPerson ot ost = some y) (b_t : bT k t ot h) (b_st : bS k g ost h) (hd0 : t + 2 ≤ g ∨ g + 9 ≤ t) : Met l yX8_readPerson (rx_ws yX8_readPerson cX8_readPerson 7 none) (rx_rm 6 130) (va_Pc [.ref t, .ref g] (rx_G G k h n)) (va_Qv (fun u => u.2 = n ∧ bT k t y.1 u.1 ∧ bS k g y.2 u.1 ∧ rx_fr [(t, 2), (g, 9)] h u.1) (rx_B G k) (rx_A k)) 0 0 (rx_A k) := by
  have s_st_t : g + 9 ≤ t ∨ t + 2 ≤ g := by omega
  have s_t_st : t + 2 ≤ g ∨ g + 9 ≤ t := by omega
  refine rx_start [(0, .ref t), (1, .ref g)] rfl (Nat.le_of_ble_eq_true rfl) (by decide) rfl (fun P9 E9 S9 M9 A9 B9 me9 c9 C hname => ?_)
  unfold F_X8_readPerson at hF
  have fr : rx_fr [(t, 2), (g, 9)] h h := rx_fr0
  refine rx_aload_n C dX8_readPerson_0 0 rfl ?_
  refine rx_ldcSw (t := 3) C (List.mem_of_getElem? (i := 10) rfl) dX8_readPerson_1 ?_
  refine rx_ldcSw (t := 2) C (List.mem_of_getElem? (i := 9) rfl) dX8_readPerson_4 ?_
  replace hF := rx_biE hF; obtain ⟨y1, e_y1, hF⟩ := hF
  refine rx_ci (rx_rVN C (w_X6_takeEither e_y1 b_t (by decide) (by decide)) Y_X6_takeEither V_X6_takeEither m_X8_446 (Or.inl ⟨_, _, _, _, b_t.1, rfl⟩) ⟨⟨rfl, rfl⟩, ⟨(Nat.le_of_ble_eq_true rfl), (Nat.le_of_ble_eq_true rfl)⟩, ⟨(Nat.le_of_ble_eq_true rfl), (Nat.le_of_ble_eq_true rfl)⟩⟩ rfl rfl (Nat.le_of_ble_eq_true rfl) dX8_readPerson_7) (fun r hh n1 hpp => ?_)
  obtain ⟨rfl, hn, c_t, ff⟩ := hpp
  replace hn : n = n1 := Eq.symm hn
  subst hn
  replace b_t : bT k t y1.2 hh := c_t
  clear c_t
  replace ff : rx_fr [(t, 2)] _ hh := ff
  replace b_st := b_st.keep ff ⟨s_st_t, trivial⟩
  replace fr := rx_frt fr ff (fun a ha => ⟨ha.1, trivial⟩)
  refine rx_istore_n C dX8_readPerson_10 (by decide) [(2, .int y1.1), (0, .ref t), (1, .ref g)] rfl ?_
  refine rx_aload_n C dX8_readPerson_11 1 rfl ?_
  refine rx_ldcSw (t := 4) C (List.mem_of_getElem? (i := 11) rfl) dX8_readPerson_12 ?_
  refine rx_ldcSw (t := 5) C (List.mem_of_getElem? (i := 12) rfl) dX8_readPerson_15 ?_
  replace hF := rx_biE hF; obtain ⟨y2, e_y2, hF⟩ := hF
  refine rx_ci (rx_rVN C (w_X6_takeEither e_y2 b_t (by decide) (by decide)) Y_X6_takeEither V_X6_takeEither m_X8_446 (Or.inl ⟨_, _, _, _, b_t.1, rfl⟩) ⟨⟨rfl, rfl⟩, ⟨(Nat.le_of_ble_eq_true rfl), (Nat.le_of_ble_eq_true rfl)⟩, ⟨(Nat.le_of_ble_eq_true rfl), (Nat.le_of_ble_eq_true rfl)⟩⟩ rfl rfl (Nat.le_of_ble_eq_true rfl) dX8_readPerson_18) (fun r hh n1 hpp => ?_)
  obtain ⟨rfl, hn, c_t, ff⟩ := hpp
  replace hn : n = n1 := Eq.symm hn
  subst hn
  replace b_t : bT k t y2.2 hh := c_t
  clear c_t
  replace ff : rx_fr [(t, 2)] _ hh := ff
  replace b_st := b_st.keep ff ⟨s_st_t, trivial⟩
  replace fr := rx_frt fr ff (fun a ha => ⟨ha.1, trivial⟩)
  refine rx_istore_n C dX8_readPerson_21 (by decide) [(3, .int y2.1), (2, .int y1.1), (0, .ref t), (1, .ref g)] rfl ?_
  refine rx_aload_n C dX8_readPerson_22 2 rfl ?_
  refine rx_iconst C dX8_readPerson_23 (0 : Int32) (by decide) ?_
  refine rx_sipush C dX8_readPerson_24 (999 : Int32) (by decide) ?_
  replace hF := rx_biE hF; obtain ⟨y3, e_y3, hF⟩ := hF
  refine rx_ci (rx_rVN C (w_X6_takeNumber e_y3 b_t) Y_X6_takeNumber V_X6_takeNumber m_X8_422 (Or.inl ⟨_, _, _, _, b_t.1, rfl⟩) ⟨⟨rfl, rfl⟩, ⟨(Nat.le_of_ble_eq_true rfl), (Nat.le_of_ble_eq_true rfl)⟩, ⟨(Nat.le_of_ble_eq_true rfl), (Nat.le_of_ble_eq_true rfl)⟩⟩ rfl rfl (Nat.le_of_ble_eq_true rfl) dX8_readPerson_27) (fun r hh n1 hpp => ?_)
  obtain ⟨rfl, hn, c_t, ff⟩ := hpp
  replace hn : n = n1 := Eq.symm hn
  subst hn
  replace b_t : bT k t y3.2 hh := c_t
  clear c_t
  replace ff : rx_fr [(t, 2)] _ hh := ff
  replace b_st := b_st.keep ff ⟨s_st_t, trivial⟩
  replace fr := rx_frt fr ff (fun a ha => ⟨ha.1, trivial⟩)
  refine rx_istore C dX8_readPerson_30 (by decide) [(4, .int y3.1), (3, .int y2.1), (2, .int y1.1), (0, .ref t), (1, .ref g)] rfl ?_
  refine rx_aload_n C dX8_readPerson_32 3 rfl ?_
  refine rx_iconst C dX8_readPerson_33 (0 : Int32) (by decide) ?_
  refine rx_bipush C dX8_readPerson_34 (40 : Int32) (by decide) ?_
  replace hF := rx_biE hF; obtain ⟨y4, e_y4, hF⟩ := hF
  refine rx_ci (rx_rVN C (w_X6_takeNumber e_y4 b_t) Y_X6_takeNumber V_X6_takeNumber m_X8_422 (Or.inl ⟨_, _, _, _, b_t.1, rfl⟩) ⟨⟨rfl, rfl⟩, ⟨(Nat.le_of_ble_eq_true rfl), (Nat.le_of_ble_eq_true rfl)⟩, ⟨(Nat.le_of_ble_eq_true rfl), (Nat.le_of_ble_eq_true rfl)⟩⟩ rfl rfl (Nat.le_of_ble_eq_true rfl) dX8_readPerson_36) (fun r hh n1 hpp => ?_)
  obtain ⟨rfl, hn, c_t, ff⟩ := hpp
  replace hn : n = n1 := Eq.symm hn
  subst hn
  replace b_t : bT k t y4.2 hh := c_t
  clear c_t
  replace ff : rx_fr [(t, 2)] _ hh := ff
  replace b_st := b_st.keep ff ⟨s_st_t, trivial⟩
  replace fr := rx_frt fr ff (fun a ha => ⟨ha.1, trivial⟩)
  refine rx_istore C dX8_readPerson_39 (by decide) [(5, .int y4.1), (4, .int y3.1), (3, .int y2.1), (2, .int y1.1), (0, .ref t), (1, .ref g)] rfl ?_
  refine rx_aload_n C dX8_readPerson_41 4 rfl ?_
  refine rx_iconst C dX8_readPerson_42 (0 : Int32) (by decide) ?_
  refine rx_bipush C dX8_readPerson_43 (50 : Int32) (by decide) ?_
  replace hF := rx_biE hF; obtain ⟨y5, e_y5, hF⟩ := hF
  refine rx_ci (rx_rVN C (w_X6_takeNumber e_y5 b_t) Y_X6_takeNumber V_X6_takeNumber m_X8_422 (Or.inl ⟨_, _, _, _, b_t.1, rfl⟩) ⟨⟨rfl, rfl⟩, ⟨(Nat.le_of_ble_eq_true rfl), (Nat.le_of_ble_eq_true rfl)⟩, ⟨(Nat.le_of_ble_eq_true rfl), (Nat.le_of_ble_eq_true rfl)⟩⟩ rfl rfl (Nat.le_of_ble_eq_true rfl) dX8_readPerson_45) (fun r hh n1 hpp => ?_)
  obtain ⟨rfl, hn, c_t, ff⟩ := hpp
  replace hn : n = n1 := Eq.symm hn
  subst hn
  replace b_t : bT k t y5.2 hh := c_t
  clear c_t
  replace ff : rx_fr [(t, 2)] _ hh := ff
  replace b_st := b_st.keep ff ⟨s_st_t, trivial⟩
  replace fr := rx_frt fr ff (fun a ha => ⟨ha.1, trivial⟩)
  refine rx_istore C dX8_readPerson_48 (by decide) [(6, .int y5.1), (5, .int y4.1), (4, .int y3.1), (3, .int y2.1), (2, .int y1.1), (0, .ref t), (1, .ref g)] rfl ?_
  refine rx_aload_n C dX8_readPerson_50 5 rfl ?_
  replace hF := rx_biE hF; obtain ⟨y6, e_y6, hF⟩ := hF
  refine rx_cv (rx_rVN C (w_X6_takeSemicolon e_y6 b_t) Y_X6_takeSemicolon V_X6_takeSemicolon m_X8_425 (Or.inl ⟨_, _, _, _, b_t.1, rfl⟩) ⟨⟨rfl, rfl⟩, ⟨(Nat.le_of_ble_eq_true rfl), (Nat.le_of_ble_eq_true rfl)⟩, ⟨(Nat.le_of_ble_eq_true rfl), (Nat.le_of_ble_eq_true rfl)⟩⟩ rfl rfl (Nat.le_of_ble_eq_true rfl) dX8_readPerson_51) (fun hh n1 hpp => ?_)
  obtain ⟨hn, c_t, ff⟩ := hpp
  replace hn : n = n1 := Eq.symm hn
  subst hn
  replace b_t : bT k t y6 hh := c_t
  clear c_t
  replace ff : rx_fr [(t, 2)] _ hh := ff
  replace b_st := b_st.keep ff ⟨s_st_t, trivial⟩
  replace fr := rx_frt fr ff (fun a ha => ⟨ha.1, trivial⟩)
  refine rx_aload_n C dX8_readPerson_54 6 rfl ?_
  refine rx_iload_n C dX8_readPerson_55 4 rfl ?_
  refine rx_iload_n C dX8_readPerson_56 3 rfl ?_
  refine rx_iload C dX8_readPerson_57 2 rfl ?_
  refine rx_iload C dX8_readPerson_59 1 rfl ?_
  refine rx_iload C dX8_readPerson_61 0 rfl ?_
  replace hF := rx_biE hF; obtain ⟨y7, e_y7, hF⟩ := hF
  refine rx_cv (rx_rVN C (w_X5_addPerson e_y7 b_st) Y_X5_addPerson V_X5_addPerson m_X8_63 (Or.inl ⟨_, _, _, _, b_st.1, rfl⟩) ⟨⟨rfl, rfl⟩, ⟨(Nat.le_of_ble_eq_true rfl), (Nat.le_of_ble_eq_true rfl)⟩, ⟨(Nat.le_of_ble_eq_true rfl), (Nat.le_of_ble_eq_true rfl)⟩⟩ rfl rfl (Nat.le_of_ble_eq_true rfl) dX8_readPerson_63) (fun hh n1 hpp => ?_)
  obtain ⟨hn, c_st, ff⟩ := hpp
  replace hn : n = n1 := Eq.symm hn
  subst hn
  replace b_st : bS k g y7 hh := c_st
  clear c_st
  replace ff : rx_fr [(g, 9)] _ hh := ff
  replace b_t := b_t.keep ff ⟨s_t_st, trivial⟩
  replace fr := rx_frt fr ff (fun a ha => ⟨ha.2.1, trivial⟩)
  obtain rfl := Option.some.inj hF
  exact rx_vret C dX8_readPerson_66 (Nat.le_refl _) (Nat.le_refl _) ⟨rfl, b_t, b_st, fr⟩
def F_X8_readPeople_2 : Nat → ob → ob → Int32 → Option (Int32 × ob × ob)
  | 0, _, _, _ => none
  | fu + 1, ot, ost, x2 => if (10 : Int32) < x2 then (some (x2, ot, ost)) else ((F_X8_isAtPerson ot).bind fun y4 => if y4 = (0 : Int32) then (some (x2, ot, ost)) else (if x2 = (10 : Int32) then ((F_X6_fail ot ((3 : Int32))).bind fun y8 => F_X8_readPeople_2  fu y8 ost ((x2 + 1))) else ((F_X8_readPerson ot ost).bind fun y7 => F_X8_readPeople_2  fu y7.1 y7.2 ((x2 + 1)))))
def F_X8_readPeople (ot : ob) (ost : ob) : Option (ob × ob) := (F_X8_readPeople_2  100000 ot ost ((0 : Int32))).bind fun zl9 => if (3 : Int32) ≤ (zl9.2.2.1 4) then (some (zl9.2.1, zl9.2.2)) else ((F_X6_fail zl9.2.1 ((1 : Int32))).bind fun y11 => some (y11, zl9.2.2))
set_option maxRecDepth 100000 in
set_option maxHeartbeats 4000000 in
theorem w_X8_readPeople {t g : Nat} {ot : ob} {ost : ob} {y : ob × ob} (hF : F_X8_readPeople ot ost = some y) (b_t : bT k t ot h) (b_st : bS k g ost h) (hd0 : t + 2 ≤ g ∨ g + 9 ≤ t) : Met l yX8_readPeople (rx_ws yX8_readPeople cX8_readPeople 3 none) (rx_rm 7 156) (va_Pc [.ref t, .ref g] (rx_G G k h n)) (va_Qv (fun u => u.2 = n ∧ bT k t y.1 u.1 ∧ bS k g y.2 u.1 ∧ rx_fr [(t, 2), (g, 9)] h u.1) (rx_B G k) (rx_A k)) 0 0 (rx_A k) := by
  have s_st_t : g + 9 ≤ t ∨ t + 2 ≤ g := by omega
  refine rx_start [(0, .ref t), (1, .ref g)] rfl (Nat.le_of_ble_eq_true rfl) (by decide) rfl (fun P9 E9 S9 M9 A9 B9 me9 c9 C hname => ?_)
  unfold F_X8_readPeople at hF
  have fr : rx_fr [(t, 2), (g, 9)] h h := rx_fr0
  refine rx_iconst C dX8_readPeople_0 (0 : Int32) (by decide) ?_
  refine rx_istore_n C dX8_readPeople_1 (by decide) [(2, .int ((0 : Int32))), (0, .ref t), (1, .ref g)] rfl ?_
  have loop2 : ∀ (fu : Nat) (zz : Int32 × ob × ob) (ot : ob) (ost : ob) (x2 : Int32) (hh : hp), F_X8_readPeople_2  fu ot ost x2 = some zz → bT k t ot hh → bS k g ost hh → rx_fr [(t, 2), (g, 9)] h hh → (∀ hh : hp, bT k t zz.2.1 hh → bS k g zz.2.2 hh → rx_fr [(t, 2), (g, 9)] h hh → rx_W P9 l E9 (rx_rm 7 156) S9 M9 A9 B9 me9 c9 (MQ B9 (va_Qv (fun u => u.2 = n ∧ bT k t y.1 u.1 ∧ bS k g y.2 u.1 ∧ rx_fr [(t, 2), (g, 9)] h u.1) (rx_B G k) (rx_A k)) A9 S9 0 0 (rx_A k)) G k 3 0 0 hh n 40 [(0, .ref t), (1, .ref g), (2, .int zz.1)] []) → rx_W P9 l E9 (rx_rm 7 156) S9 M9 A9 B9 me9 c9 (MQ B9 (va_Qv (fun u => u.2 = n ∧ bT k t y.1 u.1 ∧ bS k g y.2 u.1 ∧ rx_fr [(t, 2), (g, 9)] h u.1) (rx_B G k) (rx_A k)) A9 S9 0 0 (rx_A k)) G k 3 0 0 hh n 2 [(0, .ref t), (1, .ref g), (2, .int x2)] [] := by
    intro fu
    induction fu with
    | zero => intro zz ot ost x2 hh hF b_t b_st fr KK; exact absurd hF (by simp [F_X8_readPeople_2])
    | succ fu ih_loop2 =>
      intro zz ot ost x2 hh hF b_t b_st fr KK
      unfold F_X8_readPeople_2 at hF
      refine rx_iload_n C dX8_readPeople_2 2 rfl ?_
      refine rx_bipush C dX8_readPeople_3 (10 : Int32) (by decide) ?_
      refine rx_icmp_gt C dX8_readPeople_5 40 (by decide) (fun c3 => ?_) (fun c3 => ?_)
      · rw [if_pos c3] at hF
        obtain rfl := Option.some.inj hF
        refine rx_sub [0, 1, 2] rfl ?_
        exact KK _ b_t b_st fr
      · rw [if_neg c3] at hF
        refine rx_aload_n C dX8_readPeople_8 0 rfl ?_
        replace hF := rx_biE hF; obtain ⟨y4, e_y4, hF⟩ := hF
        refine rx_ci (rx_rS C (w_X8_isAtPerson e_y4 b_t) Y_X8_isAtPerson S_X8_isAtPerson m_X8_428 ⟨⟨rfl, rfl⟩, ⟨(Nat.le_of_ble_eq_true rfl), (Nat.le_of_ble_eq_true rfl)⟩, ⟨(Nat.le_of_ble_eq_true rfl), (Nat.le_of_ble_eq_true rfl)⟩⟩ rfl rfl (Nat.le_of_ble_eq_true rfl) dX8_readPeople_9) (fun r hh n1 hpp => ?_)
        obtain ⟨rfl, bo_y4, hu⟩ := hpp
        cases hu
        refine rx_if_eq C dX8_readPeople_12 40 (by decide) (fun c5 => ?_) (fun c5 => ?_)
        · rw [if_pos c5] at hF
          obtain rfl := Option.some.inj hF
          refine rx_sub [0, 1, 2] rfl ?_
          exact KK _ b_t b_st fr
        · rw [if_neg c5] at hF
          refine rx_iload_n C dX8_readPeople_15 2 rfl ?_
          refine rx_bipush C dX8_readPeople_16 (10 : Int32) (by decide) ?_
          refine rx_icmp_ne C dX8_readPeople_18 29 (by decide) (fun c6 => ?_) (fun c6 => ?_)
          · rw [if_neg c6] at hF
            refine rx_aload_n C dX8_readPeople_29 0 rfl ?_
            refine rx_aload_n C dX8_readPeople_30 1 rfl ?_
            replace hF := rx_biE hF; obtain ⟨y7, e_y7, hF⟩ := hF
            refine rx_cv (rx_rS C (w_X8_readPerson e_y7 b_t b_st (by omega)) Y_X8_readPerson S_X8_readPerson m_X8_435 ⟨⟨rfl, rfl⟩, ⟨(Nat.le_of_ble_eq_true rfl), (Nat.le_of_ble_eq_true rfl)⟩, ⟨(Nat.le_of_ble_eq_true rfl), (Nat.le_of_ble_eq_true rfl)⟩⟩ rfl rfl (Nat.le_of_ble_eq_true rfl) dX8_readPeople_31) (fun hh n1 hpp => ?_)
            obtain ⟨hn, c_t, c_st, ff⟩ := hpp
            replace hn : n = n1 := Eq.symm hn
            subst hn
            replace b_t : bT k t y7.1 hh := c_t
            clear c_t
            replace b_st : bS k g y7.2 hh := c_st
            clear c_st
            replace ff : rx_fr [(t, 2), (g, 9)] _ hh := ff
            replace fr := rx_frt fr ff (fun a ha => ⟨ha.1, ha.2.1, trivial⟩)
            refine rx_iinc C dX8_readPeople_34 2 rfl (x2 + 1) rfl (by decide) [(2, .int ((x2 + 1))), (0, .ref t), (1, .ref g)] rfl ?_
            refine rx_goto C dX8_readPeople_37 2 (by decide) ?_
            refine rx_sub [1, 2, 0] rfl ?_
            exact ih_loop2 _ _ _ _ _ hF b_t b_st fr KK
          · rw [if_pos c6] at hF
            refine rx_aload_n C dX8_readPeople_21 0 rfl ?_
            refine rx_iconst C dX8_readPeople_22 (3 : Int32) (by decide) ?_
            replace hF := rx_biE hF; obtain ⟨y8, e_y8, hF⟩ := hF
            refine rx_cv (rx_rVN C (w_X6_fail e_y8 b_t) Y_X6_fail V_X6_fail m_X8_432 (Or.inl ⟨_, _, _, _, b_t.1, rfl⟩) ⟨⟨rfl, rfl⟩, ⟨(Nat.le_of_ble_eq_true rfl), (Nat.le_of_ble_eq_true rfl)⟩, ⟨(Nat.le_of_ble_eq_true rfl), (Nat.le_of_ble_eq_true rfl)⟩⟩ rfl rfl (Nat.le_of_ble_eq_true rfl) dX8_readPeople_23) (fun hh n1 hpp => ?_)
            obtain ⟨hn, c_t, ff⟩ := hpp
            replace hn : n = n1 := Eq.symm hn
            subst hn
            replace b_t : bT k t y8 hh := c_t
            clear c_t
            replace ff : rx_fr [(t, 2)] _ hh := ff
            replace b_st := b_st.keep ff ⟨s_st_t, trivial⟩
            replace fr := rx_frt fr ff (fun a ha => ⟨ha.1, trivial⟩)
            refine rx_goto C dX8_readPeople_26 34 (by decide) ?_
            refine rx_iinc C dX8_readPeople_34 2 rfl (x2 + 1) rfl (by decide) [(2, .int ((x2 + 1))), (0, .ref t), (1, .ref g)] rfl ?_
            refine rx_goto C dX8_readPeople_37 2 (by decide) ?_
            refine rx_sub [1, 2, 0] rfl ?_
            exact ih_loop2 _ _ _ _ _ hF b_t b_st fr KK
  refine rx_sub [1, 2, 0] rfl ?_
  replace hF := rx_biE hF; obtain ⟨zl9, e_zl9, hF⟩ := hF
  refine loop2 _ zl9 _ _ _ _ e_zl9 b_t b_st fr (fun hh b_t b_st fr => ?_)
  refine rx_aload_n C dX8_readPeople_40 1 rfl ?_
  refine rx_getfN C f_X8_111 dX8_readPeople_41 b_st.1 rfl ?_
  refine rx_iconst C dX8_readPeople_44 (3 : Int32) (by decide) ?_
  refine rx_icmp_ge C dX8_readPeople_45 53 (by decide) (fun c10 => ?_) (fun c10 => ?_)
  · rw [if_pos c10] at hF
    obtain rfl := Option.some.inj hF
    exact rx_vret C dX8_readPeople_53 (Nat.le_refl _) (Nat.le_refl _) ⟨rfl, b_t, b_st, fr⟩
  · rw [if_neg c10] at hF
    refine rx_aload_n C dX8_readPeople_48 0 rfl ?_
    refine rx_iconst C dX8_readPeople_49 (1 : Int32) (by decide) ?_
    replace hF := rx_biE hF; obtain ⟨y11, e_y11, hF⟩ := hF
    refine rx_cv (rx_rVN C (w_X6_fail e_y11 b_t) Y_X6_fail V_X6_fail m_X8_432 (Or.inl ⟨_, _, _, _, b_t.1, rfl⟩) ⟨⟨rfl, rfl⟩, ⟨(Nat.le_of_ble_eq_true rfl), (Nat.le_of_ble_eq_true rfl)⟩, ⟨(Nat.le_of_ble_eq_true rfl), (Nat.le_of_ble_eq_true rfl)⟩⟩ rfl rfl (Nat.le_of_ble_eq_true rfl) dX8_readPeople_50) (fun hh n1 hpp => ?_)
    obtain ⟨hn, c_t, ff⟩ := hpp
    replace hn : n = n1 := Eq.symm hn
    subst hn
    replace b_t : bT k t y11 hh := c_t
    clear c_t
    replace ff : rx_fr [(t, 2)] _ hh := ff
    replace b_st := b_st.keep ff ⟨s_st_t, trivial⟩
    replace fr := rx_frt fr ff (fun a ha => ⟨ha.1, trivial⟩)
    obtain rfl := Option.some.inj hF
    exact rx_vret C dX8_readPeople_53 (Nat.le_refl _) (Nat.le_refl _) ⟨rfl, b_t, b_st, fr⟩
def F_X8_readBridge (ot : ob) (ost : ob) : Option (ob × ob) := (F_X6_takeWord ot 6).bind fun y1 => (F_X6_takeNumber y1 ((1 : Int32)) ((9 : Int32))).bind fun y2 => (F_X6_takeNumber y2.2 ((0 : Int32)) ((y2.1 - (1 : Int32)))).bind fun y3 => (F_X6_takeNumber y3.2 ((1 : Int32)) ((3 : Int32))).bind fun y4 => (F_X6_takeSemicolon y4.2).bind fun y5 => (F_X5_addBridge ost y2.1 y3.1 y4.1).bind fun y6 => some (y5, y6)
set_option maxRecDepth 100000 in
set_option maxHeartbeats 4000000 in
theorem w_X8_readBridge {t g : Nat} {ot : ob} {ost : ob} {y : ob × ob} (hF : F_X8_readBridge ot ost = some y) (b_t : bT k t ot h) (b_st : bS k g ost h) (hd0 : t + 2 ≤ g ∨ g + 9 ≤ t) : Met l yX8_readBridge (rx_ws yX8_readBridge cX8_readBridge 5 none) (rx_rm 6 128) (va_Pc [.ref t, .ref g] (rx_G G k h n)) (va_Qv (fun u => u.2 = n ∧ bT k t y.1 u.1 ∧ bS k g y.2 u.1 ∧ rx_fr [(t, 2), (g, 9)] h u.1) (rx_B G k) (rx_A k)) 0 0 (rx_A k) := by
  have s_st_t : g + 9 ≤ t ∨ t + 2 ≤ g := by omega
  have s_t_st : t + 2 ≤ g ∨ g + 9 ≤ t := by omega
  refine rx_start [(0, .ref t), (1, .ref g)] rfl (Nat.le_of_ble_eq_true rfl) (by decide) rfl (fun P9 E9 S9 M9 A9 B9 me9 c9 C hname => ?_)
  unfold F_X8_readBridge at hF
  have fr : rx_fr [(t, 2), (g, 9)] h h := rx_fr0
  refine rx_aload_n C dX8_readBridge_0 0 rfl ?_
  refine rx_ldcSw (t := 6) C (List.mem_of_getElem? (i := 13) rfl) dX8_readBridge_1 ?_
  replace hF := rx_biE hF; obtain ⟨y1, e_y1, hF⟩ := hF
  refine rx_cv (rx_rVN C (w_X6_takeWord e_y1 b_t (by decide)) Y_X6_takeWord V_X6_takeWord m_X8_419 (Or.inl ⟨_, _, _, _, b_t.1, rfl⟩) ⟨⟨rfl, rfl⟩, ⟨(Nat.le_of_ble_eq_true rfl), (Nat.le_of_ble_eq_true rfl)⟩, ⟨(Nat.le_of_ble_eq_true rfl), (Nat.le_of_ble_eq_true rfl)⟩⟩ rfl rfl (Nat.le_of_ble_eq_true rfl) dX8_readBridge_4) (fun hh n1 hpp => ?_)
  obtain ⟨hn, c_t, ff⟩ := hpp
  replace hn : n = n1 := Eq.symm hn
  subst hn
  replace b_t : bT k t y1 hh := c_t
  clear c_t
  replace ff : rx_fr [(t, 2)] _ hh := ff
  replace b_st := b_st.keep ff ⟨s_st_t, trivial⟩
  replace fr := rx_frt fr ff (fun a ha => ⟨ha.1, trivial⟩)
  refine rx_aload_n C dX8_readBridge_7 0 rfl ?_
  refine rx_iconst C dX8_readBridge_8 (1 : Int32) (by decide) ?_
  refine rx_bipush C dX8_readBridge_9 (9 : Int32) (by decide) ?_
  replace hF := rx_biE hF; obtain ⟨y2, e_y2, hF⟩ := hF
  refine rx_ci (rx_rVN C (w_X6_takeNumber e_y2 b_t) Y_X6_takeNumber V_X6_takeNumber m_X8_422 (Or.inl ⟨_, _, _, _, b_t.1, rfl⟩) ⟨⟨rfl, rfl⟩, ⟨(Nat.le_of_ble_eq_true rfl), (Nat.le_of_ble_eq_true rfl)⟩, ⟨(Nat.le_of_ble_eq_true rfl), (Nat.le_of_ble_eq_true rfl)⟩⟩ rfl rfl (Nat.le_of_ble_eq_true rfl) dX8_readBridge_11) (fun r hh n1 hpp => ?_)
  obtain ⟨rfl, hn, c_t, ff⟩ := hpp
  replace hn : n = n1 := Eq.symm hn
  subst hn
  replace b_t : bT k t y2.2 hh := c_t
  clear c_t
  replace ff : rx_fr [(t, 2)] _ hh := ff
  replace b_st := b_st.keep ff ⟨s_st_t, trivial⟩
  replace fr := rx_frt fr ff (fun a ha => ⟨ha.1, trivial⟩)
  refine rx_istore_n C dX8_readBridge_14 (by decide) [(2, .int y2.1), (0, .ref t), (1, .ref g)] rfl ?_
  refine rx_aload_n C dX8_readBridge_15 1 rfl ?_
  refine rx_iconst C dX8_readBridge_16 (0 : Int32) (by decide) ?_
  refine rx_iload_n C dX8_readBridge_17 0 rfl ?_
  refine rx_iconst C dX8_readBridge_18 (1 : Int32) (by decide) ?_
  refine rx_isub C dX8_readBridge_19 ?_
  replace hF := rx_biE hF; obtain ⟨y3, e_y3, hF⟩ := hF
  refine rx_ci (rx_rVN C (w_X6_takeNumber e_y3 b_t) Y_X6_takeNumber V_X6_takeNumber m_X8_422 (Or.inl ⟨_, _, _, _, b_t.1, rfl⟩) ⟨⟨rfl, rfl⟩, ⟨(Nat.le_of_ble_eq_true rfl), (Nat.le_of_ble_eq_true rfl)⟩, ⟨(Nat.le_of_ble_eq_true rfl), (Nat.le_of_ble_eq_true rfl)⟩⟩ rfl rfl (Nat.le_of_ble_eq_true rfl) dX8_readBridge_20) (fun r hh n1 hpp => ?_)
  obtain ⟨rfl, hn, c_t, ff⟩ := hpp
  replace hn : n = n1 := Eq.symm hn
  subst hn
  replace b_t : bT k t y3.2 hh := c_t
  clear c_t
  replace ff : rx_fr [(t, 2)] _ hh := ff
  replace b_st := b_st.keep ff ⟨s_st_t, trivial⟩
  replace fr := rx_frt fr ff (fun a ha => ⟨ha.1, trivial⟩)
  refine rx_istore_n C dX8_readBridge_23 (by decide) [(3, .int y3.1), (2, .int y2.1), (0, .ref t), (1, .ref g)] rfl ?_
  refine rx_aload_n C dX8_readBridge_24 2 rfl ?_
  refine rx_iconst C dX8_readBridge_25 (1 : Int32) (by decide) ?_
  refine rx_iconst C dX8_readBridge_26 (3 : Int32) (by decide) ?_
  replace hF := rx_biE hF; obtain ⟨y4, e_y4, hF⟩ := hF
  refine rx_ci (rx_rVN C (w_X6_takeNumber e_y4 b_t) Y_X6_takeNumber V_X6_takeNumber m_X8_422 (Or.inl ⟨_, _, _, _, b_t.1, rfl⟩) ⟨⟨rfl, rfl⟩, ⟨(Nat.le_of_ble_eq_true rfl), (Nat.le_of_ble_eq_true rfl)⟩, ⟨(Nat.le_of_ble_eq_true rfl), (Nat.le_of_ble_eq_true rfl)⟩⟩ rfl rfl (Nat.le_of_ble_eq_true rfl) dX8_readBridge_27) (fun r hh n1 hpp => ?_)
  obtain ⟨rfl, hn, c_t, ff⟩ := hpp
  replace hn : n = n1 := Eq.symm hn
  subst hn
  replace b_t : bT k t y4.2 hh := c_t
  clear c_t
  replace ff : rx_fr [(t, 2)] _ hh := ff
  replace b_st := b_st.keep ff ⟨s_st_t, trivial⟩
  replace fr := rx_frt fr ff (fun a ha => ⟨ha.1, trivial⟩)
  refine rx_istore C dX8_readBridge_30 (by decide) [(4, .int y4.1), (3, .int y3.1), (2, .int y2.1), (0, .ref t), (1, .ref g)] rfl ?_
  refine rx_aload_n C dX8_readBridge_32 3 rfl ?_
  replace hF := rx_biE hF; obtain ⟨y5, e_y5, hF⟩ := hF
  refine rx_cv (rx_rVN C (w_X6_takeSemicolon e_y5 b_t) Y_X6_takeSemicolon V_X6_takeSemicolon m_X8_425 (Or.inl ⟨_, _, _, _, b_t.1, rfl⟩) ⟨⟨rfl, rfl⟩, ⟨(Nat.le_of_ble_eq_true rfl), (Nat.le_of_ble_eq_true rfl)⟩, ⟨(Nat.le_of_ble_eq_true rfl), (Nat.le_of_ble_eq_true rfl)⟩⟩ rfl rfl (Nat.le_of_ble_eq_true rfl) dX8_readBridge_33) (fun hh n1 hpp => ?_)
  obtain ⟨hn, c_t, ff⟩ := hpp
  replace hn : n = n1 := Eq.symm hn
  subst hn
  replace b_t : bT k t y5 hh := c_t
  clear c_t
  replace ff : rx_fr [(t, 2)] _ hh := ff
  replace b_st := b_st.keep ff ⟨s_st_t, trivial⟩
  replace fr := rx_frt fr ff (fun a ha => ⟨ha.1, trivial⟩)
  refine rx_aload_n C dX8_readBridge_36 4 rfl ?_
  refine rx_iload_n C dX8_readBridge_37 2 rfl ?_
  refine rx_iload_n C dX8_readBridge_38 1 rfl ?_
  refine rx_iload C dX8_readBridge_39 0 rfl ?_
  replace hF := rx_biE hF; obtain ⟨y6, e_y6, hF⟩ := hF
  refine rx_cv (rx_rVN C (w_X5_addBridge e_y6 b_st) Y_X5_addBridge V_X5_addBridge m_X8_67 (Or.inl ⟨_, _, _, _, b_st.1, rfl⟩) ⟨⟨rfl, rfl⟩, ⟨(Nat.le_of_ble_eq_true rfl), (Nat.le_of_ble_eq_true rfl)⟩, ⟨(Nat.le_of_ble_eq_true rfl), (Nat.le_of_ble_eq_true rfl)⟩⟩ rfl rfl (Nat.le_of_ble_eq_true rfl) dX8_readBridge_41) (fun hh n1 hpp => ?_)
  obtain ⟨hn, c_st, ff⟩ := hpp
  replace hn : n = n1 := Eq.symm hn
  subst hn
  replace b_st : bS k g y6 hh := c_st
  clear c_st
  replace ff : rx_fr [(g, 9)] _ hh := ff
  replace b_t := b_t.keep ff ⟨s_t_st, trivial⟩
  replace fr := rx_frt fr ff (fun a ha => ⟨ha.2.1, trivial⟩)
  obtain rfl := Option.some.inj hF
  exact rx_vret C dX8_readBridge_44 (Nat.le_refl _) (Nat.le_refl _) ⟨rfl, b_t, b_st, fr⟩
def F_X8_readBridges_2 : Nat → ob → ob → Int32 → Option (Int32 × ob × ob)
  | 0, _, _, _ => none
  | fu + 1, ot, ost, x2 => if (4 : Int32) < x2 then (some (x2, ot, ost)) else ((F_X6_isAtWord ot 6).bind fun y4 => if y4 = (0 : Int32) then (some (x2, ot, ost)) else (if x2 = (4 : Int32) then ((F_X6_fail ot ((3 : Int32))).bind fun y8 => F_X8_readBridges_2  fu y8 ost ((x2 + 1))) else ((F_X8_readBridge ot ost).bind fun y7 => F_X8_readBridges_2  fu y7.1 y7.2 ((x2 + 1)))))
def F_X8_readBridges (ot : ob) (ost : ob) : Option (ob × ob) := (F_X8_readBridges_2  100000 ot ost ((0 : Int32))).bind fun zl9 => if (zl9.2.2.1 5) = (0 : Int32) then ((F_X6_fail zl9.2.1 ((1 : Int32))).bind fun y11 => some (y11, zl9.2.2)) else ((F_X6_isAtEnd zl9.2.1).bind fun y12 => if y12 = (0 : Int32) then ((F_X6_fail zl9.2.1 ((1 : Int32))).bind fun y14 => some (y14, zl9.2.2)) else (some (zl9.2.1, zl9.2.2)))
set_option maxRecDepth 100000 in
set_option maxHeartbeats 4000000 in
theorem w_X8_readBridges {t g : Nat} {ot : ob} {ost : ob} {y : ob × ob} (hF : F_X8_readBridges ot ost = some y) (b_t : bT k t ot h) (b_st : bS k g ost h) (hd0 : t + 2 ≤ g ∨ g + 9 ≤ t) : Met l yX8_readBridges (rx_ws yX8_readBridges cX8_readBridges 3 none) (rx_rm 7 152) (va_Pc [.ref t, .ref g] (rx_G G k h n)) (va_Qv (fun u => u.2 = n ∧ bT k t y.1 u.1 ∧ bS k g y.2 u.1 ∧ rx_fr [(t, 2), (g, 9)] h u.1) (rx_B G k) (rx_A k)) 0 0 (rx_A k) := by
  have s_st_t : g + 9 ≤ t ∨ t + 2 ≤ g := by omega
  refine rx_start [(0, .ref t), (1, .ref g)] rfl (Nat.le_of_ble_eq_true rfl) (by decide) rfl (fun P9 E9 S9 M9 A9 B9 me9 c9 C hname => ?_)
  unfold F_X8_readBridges at hF
  have fr : rx_fr [(t, 2), (g, 9)] h h := rx_fr0
  refine rx_iconst C dX8_readBridges_0 (0 : Int32) (by decide) ?_
  refine rx_istore_n C dX8_readBridges_1 (by decide) [(2, .int ((0 : Int32))), (0, .ref t), (1, .ref g)] rfl ?_
  have loop2 : ∀ (fu : Nat) (zz : Int32 × ob × ob) (ot : ob) (ost : ob) (x2 : Int32) (hh : hp), F_X8_readBridges_2  fu ot ost x2 = some zz → bT k t ot hh → bS k g ost hh → rx_fr [(t, 2), (g, 9)] h hh → (∀ hh : hp, bT k t zz.2.1 hh → bS k g zz.2.2 hh → rx_fr [(t, 2), (g, 9)] h hh → rx_W P9 l E9 (rx_rm 7 152) S9 M9 A9 B9 me9 c9 (MQ B9 (va_Qv (fun u => u.2 = n ∧ bT k t y.1 u.1 ∧ bS k g y.2 u.1 ∧ rx_fr [(t, 2), (g, 9)] h u.1) (rx_B G k) (rx_A k)) A9 S9 0 0 (rx_A k)) G k 3 0 0 hh n 41 [(0, .ref t), (1, .ref g), (2, .int zz.1)] []) → rx_W P9 l E9 (rx_rm 7 152) S9 M9 A9 B9 me9 c9 (MQ B9 (va_Qv (fun u => u.2 = n ∧ bT k t y.1 u.1 ∧ bS k g y.2 u.1 ∧ rx_fr [(t, 2), (g, 9)] h u.1) (rx_B G k) (rx_A k)) A9 S9 0 0 (rx_A k)) G k 3 0 0 hh n 2 [(0, .ref t), (1, .ref g), (2, .int x2)] [] := by
    intro fu
    induction fu with
    | zero => intro zz ot ost x2 hh hF b_t b_st fr KK; exact absurd hF (by simp [F_X8_readBridges_2])
    | succ fu ih_loop2 =>
      intro zz ot ost x2 hh hF b_t b_st fr KK
      unfold F_X8_readBridges_2 at hF
      refine rx_iload_n C dX8_readBridges_2 2 rfl ?_
      refine rx_iconst C dX8_readBridges_3 (4 : Int32) (by decide) ?_
      refine rx_icmp_gt C dX8_readBridges_4 41 (by decide) (fun c3 => ?_) (fun c3 => ?_)
      · rw [if_pos c3] at hF
        obtain rfl := Option.some.inj hF
        refine rx_sub [0, 1, 2] rfl ?_
        exact KK _ b_t b_st fr
      · rw [if_neg c3] at hF
        refine rx_aload_n C dX8_readBridges_7 0 rfl ?_
        refine rx_ldcSw (t := 6) C (List.mem_of_getElem? (i := 13) rfl) dX8_readBridges_8 ?_
        replace hF := rx_biE hF; obtain ⟨y4, e_y4, hF⟩ := hF
        refine rx_ci (rx_rVN C (w_X6_isAtWord e_y4 b_t (by decide)) Y_X6_isAtWord V_X6_isAtWord m_X8_440 (Or.inl ⟨_, _, _, _, b_t.1, rfl⟩) ⟨⟨rfl, rfl⟩, ⟨(Nat.le_of_ble_eq_true rfl), (Nat.le_of_ble_eq_true rfl)⟩, ⟨(Nat.le_of_ble_eq_true rfl), (Nat.le_of_ble_eq_true rfl)⟩⟩ rfl rfl (Nat.le_of_ble_eq_true rfl) dX8_readBridges_11) (fun r hh n1 hpp => ?_)
        obtain ⟨rfl, bo_y4, hu⟩ := hpp
        cases hu
        refine rx_if_eq C dX8_readBridges_14 41 (by decide) (fun c5 => ?_) (fun c5 => ?_)
        · rw [if_pos c5] at hF
          obtain rfl := Option.some.inj hF
          refine rx_sub [0, 1, 2] rfl ?_
          exact KK _ b_t b_st fr
        · rw [if_neg c5] at hF
          refine rx_iload_n C dX8_readBridges_17 2 rfl ?_
          refine rx_iconst C dX8_readBridges_18 (4 : Int32) (by decide) ?_
          refine rx_icmp_ne C dX8_readBridges_19 30 (by decide) (fun c6 => ?_) (fun c6 => ?_)
          · rw [if_neg c6] at hF
            refine rx_aload_n C dX8_readBridges_30 0 rfl ?_
            refine rx_aload_n C dX8_readBridges_31 1 rfl ?_
            replace hF := rx_biE hF; obtain ⟨y7, e_y7, hF⟩ := hF
            refine rx_cv (rx_rS C (w_X8_readBridge e_y7 b_t b_st (by omega)) Y_X8_readBridge S_X8_readBridge m_X8_456 ⟨⟨rfl, rfl⟩, ⟨(Nat.le_of_ble_eq_true rfl), (Nat.le_of_ble_eq_true rfl)⟩, ⟨(Nat.le_of_ble_eq_true rfl), (Nat.le_of_ble_eq_true rfl)⟩⟩ rfl rfl (Nat.le_of_ble_eq_true rfl) dX8_readBridges_32) (fun hh n1 hpp => ?_)
            obtain ⟨hn, c_t, c_st, ff⟩ := hpp
            replace hn : n = n1 := Eq.symm hn
            subst hn
            replace b_t : bT k t y7.1 hh := c_t
            clear c_t
            replace b_st : bS k g y7.2 hh := c_st
            clear c_st
            replace ff : rx_fr [(t, 2), (g, 9)] _ hh := ff
            replace fr := rx_frt fr ff (fun a ha => ⟨ha.1, ha.2.1, trivial⟩)
            refine rx_iinc C dX8_readBridges_35 2 rfl (x2 + 1) rfl (by decide) [(2, .int ((x2 + 1))), (0, .ref t), (1, .ref g)] rfl ?_
            refine rx_goto C dX8_readBridges_38 2 (by decide) ?_
            refine rx_sub [1, 2, 0] rfl ?_
            exact ih_loop2 _ _ _ _ _ hF b_t b_st fr KK
          · rw [if_pos c6] at hF
            refine rx_aload_n C dX8_readBridges_22 0 rfl ?_
            refine rx_iconst C dX8_readBridges_23 (3 : Int32) (by decide) ?_
            replace hF := rx_biE hF; obtain ⟨y8, e_y8, hF⟩ := hF
            refine rx_cv (rx_rVN C (w_X6_fail e_y8 b_t) Y_X6_fail V_X6_fail m_X8_432 (Or.inl ⟨_, _, _, _, b_t.1, rfl⟩) ⟨⟨rfl, rfl⟩, ⟨(Nat.le_of_ble_eq_true rfl), (Nat.le_of_ble_eq_true rfl)⟩, ⟨(Nat.le_of_ble_eq_true rfl), (Nat.le_of_ble_eq_true rfl)⟩⟩ rfl rfl (Nat.le_of_ble_eq_true rfl) dX8_readBridges_24) (fun hh n1 hpp => ?_)
            obtain ⟨hn, c_t, ff⟩ := hpp
            replace hn : n = n1 := Eq.symm hn
            subst hn
            replace b_t : bT k t y8 hh := c_t
            clear c_t
            replace ff : rx_fr [(t, 2)] _ hh := ff
            replace b_st := b_st.keep ff ⟨s_st_t, trivial⟩
            replace fr := rx_frt fr ff (fun a ha => ⟨ha.1, trivial⟩)
            refine rx_goto C dX8_readBridges_27 35 (by decide) ?_
            refine rx_iinc C dX8_readBridges_35 2 rfl (x2 + 1) rfl (by decide) [(2, .int ((x2 + 1))), (0, .ref t), (1, .ref g)] rfl ?_
            refine rx_goto C dX8_readBridges_38 2 (by decide) ?_
            refine rx_sub [1, 2, 0] rfl ?_
            exact ih_loop2 _ _ _ _ _ hF b_t b_st fr KK
  refine rx_sub [1, 2, 0] rfl ?_
  replace hF := rx_biE hF; obtain ⟨zl9, e_zl9, hF⟩ := hF
  refine loop2 _ zl9 _ _ _ _ e_zl9 b_t b_st fr (fun hh b_t b_st fr => ?_)
  refine rx_aload_n C dX8_readBridges_41 1 rfl ?_
  refine rx_getfN C f_X8_244 dX8_readBridges_42 b_st.1 rfl ?_
  refine rx_if_eq C dX8_readBridges_45 55 (by decide) (fun c10 => ?_) (fun c10 => ?_)
  · rw [if_pos c10] at hF
    refine rx_aload_n C dX8_readBridges_55 0 rfl ?_
    refine rx_iconst C dX8_readBridges_56 (1 : Int32) (by decide) ?_
    replace hF := rx_biE hF; obtain ⟨y11, e_y11, hF⟩ := hF
    refine rx_cv (rx_rVN C (w_X6_fail e_y11 b_t) Y_X6_fail V_X6_fail m_X8_432 (Or.inl ⟨_, _, _, _, b_t.1, rfl⟩) ⟨⟨rfl, rfl⟩, ⟨(Nat.le_of_ble_eq_true rfl), (Nat.le_of_ble_eq_true rfl)⟩, ⟨(Nat.le_of_ble_eq_true rfl), (Nat.le_of_ble_eq_true rfl)⟩⟩ rfl rfl (Nat.le_of_ble_eq_true rfl) dX8_readBridges_57) (fun hh n1 hpp => ?_)
    obtain ⟨hn, c_t, ff⟩ := hpp
    replace hn : n = n1 := Eq.symm hn
    subst hn
    replace b_t : bT k t y11 hh := c_t
    clear c_t
    replace ff : rx_fr [(t, 2)] _ hh := ff
    replace b_st := b_st.keep ff ⟨s_st_t, trivial⟩
    replace fr := rx_frt fr ff (fun a ha => ⟨ha.1, trivial⟩)
    obtain rfl := Option.some.inj hF
    exact rx_vret C dX8_readBridges_60 (Nat.le_refl _) (Nat.le_refl _) ⟨rfl, b_t, b_st, fr⟩
  · rw [if_neg c10] at hF
    refine rx_aload_n C dX8_readBridges_48 0 rfl ?_
    replace hF := rx_biE hF; obtain ⟨y12, e_y12, hF⟩ := hF
    refine rx_ci (rx_rVN C (w_X6_isAtEnd e_y12 b_t) Y_X6_isAtEnd V_X6_isAtEnd m_X8_459 (Or.inl ⟨_, _, _, _, b_t.1, rfl⟩) ⟨⟨rfl, rfl⟩, ⟨(Nat.le_of_ble_eq_true rfl), (Nat.le_of_ble_eq_true rfl)⟩, ⟨(Nat.le_of_ble_eq_true rfl), (Nat.le_of_ble_eq_true rfl)⟩⟩ rfl rfl (Nat.le_of_ble_eq_true rfl) dX8_readBridges_49) (fun r hh n1 hpp => ?_)
    obtain ⟨rfl, bo_y12, hu⟩ := hpp
    cases hu
    refine rx_if_ne C dX8_readBridges_52 60 (by decide) (fun c13 => ?_) (fun c13 => ?_)
    · rw [if_neg c13] at hF
      obtain rfl := Option.some.inj hF
      exact rx_vret C dX8_readBridges_60 (Nat.le_refl _) (Nat.le_refl _) ⟨rfl, b_t, b_st, fr⟩
    · rw [if_pos c13] at hF
      refine rx_aload_n C dX8_readBridges_55 0 rfl ?_
      refine rx_iconst C dX8_readBridges_56 (1 : Int32) (by decide) ?_
      replace hF := rx_biE hF; obtain ⟨y14, e_y14, hF⟩ := hF
      refine rx_cv (rx_rVN C (w_X6_fail e_y14 b_t) Y_X6_fail V_X6_fail m_X8_432 (Or.inl ⟨_, _, _, _, b_t.1, rfl⟩) ⟨⟨rfl, rfl⟩, ⟨(Nat.le_of_ble_eq_true rfl), (Nat.le_of_ble_eq_true rfl)⟩, ⟨(Nat.le_of_ble_eq_true rfl), (Nat.le_of_ble_eq_true rfl)⟩⟩ rfl rfl (Nat.le_of_ble_eq_true rfl) dX8_readBridges_57) (fun hh n1 hpp => ?_)
      obtain ⟨hn, c_t, ff⟩ := hpp
      replace hn : n = n1 := Eq.symm hn
      subst hn
      replace b_t : bT k t y14 hh := c_t
      clear c_t
      replace ff : rx_fr [(t, 2)] _ hh := ff
      replace b_st := b_st.keep ff ⟨s_st_t, trivial⟩
      replace fr := rx_frt fr ff (fun a ha => ⟨ha.1, trivial⟩)
      obtain rfl := Option.some.inj hF
      exact rx_vret C dX8_readBridges_60 (Nat.le_refl _) (Nat.le_refl _) ⟨rfl, b_t, b_st, fr⟩
end GEN
