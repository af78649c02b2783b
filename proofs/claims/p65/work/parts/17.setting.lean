section GEN
variable {l : Launch} {G : va_G} {k : Nat → Nat} {h : hp} {n : Nat}
def F_X5_begin (ost : ob) (x1 : Int32) (x2 : Int32) (x3 : Int32) (x4 : Int32) : Option (ob) := rx_le (upd ost.1 0 x1, ost.2) fun o_st_1 => rx_le (upd o_st_1.1 1 x2, o_st_1.2) fun o_st_2 => rx_le (upd o_st_2.1 2 x3, o_st_2.2) fun o_st_3 => rx_le (upd o_st_3.1 3 x4, o_st_3.2) fun o_st_4 => rx_le (upd o_st_4.1 4 ((0 : Int32)), o_st_4.2) fun o_st_5 => rx_le (upd o_st_5.1 5 ((0 : Int32)), o_st_5.2) fun o_st_6 => some o_st_6
set_option maxRecDepth 100000 in
set_option maxHeartbeats 4000000 in
theorem w_X5_begin {g : Nat} {ost : ob} {x1 : Int32} {x2 : Int32} {x3 : Int32} {x4 : Int32} {y : ob} (hF : F_X5_begin ost x1 x2 x3 x4 = some y) (b_st : bS k g ost h) : Met l yX5_begin (rx_ws yX5_begin cX5_begin 5 none) (rx_rm 0 0) (va_Pc [.ref g, .int x1, .int x2, .int x3, .int x4] (rx_G G k h n)) (va_Qv (fun u => u.2 = n ∧ bS k g y u.1 ∧ rx_fr [(g, 9)] h u.1) (rx_B G k) (rx_A k)) 0 0 (rx_A k) := by
  refine rx_start [(0, .ref g), (1, .int x1), (2, .int x2), (3, .int x3), (4, .int x4)] rfl (Nat.le_of_ble_eq_true rfl) (by decide) rfl (fun P9 E9 S9 M9 A9 B9 me9 c9 C hname => ?_)
  unfold F_X5_begin at hF
  have fr : rx_fr [(g, 9)] h h := rx_fr0
  refine rx_aload_n C dX5_begin_0 0 rfl ?_
  refine rx_iload_n C dX5_begin_1 1 rfl ?_
  replace hF := rx_leE hF; obtain ⟨o_st_1, e_o_st_1, hF⟩ := hF
  refine rx_pS0 C f_X5_36 dX5_begin_2 b_st e_o_st_1 (fun hh c_st ff => ?_)
  replace b_st := c_st
  replace fr := rx_frt fr ff (fun a ha => ⟨ha.1, trivial⟩)
  refine rx_aload_n C dX5_begin_5 0 rfl ?_
  refine rx_iload_n C dX5_begin_6 2 rfl ?_
  replace hF := rx_leE hF; obtain ⟨o_st_2, e_o_st_2, hF⟩ := hF
  refine rx_pS1 C f_X5_40 dX5_begin_7 b_st e_o_st_2 (fun hh c_st ff => ?_)
  replace b_st := c_st
  replace fr := rx_frt fr ff (fun a ha => ⟨ha.1, trivial⟩)
  refine rx_aload_n C dX5_begin_10 0 rfl ?_
  refine rx_iload_n C dX5_begin_11 3 rfl ?_
  replace hF := rx_leE hF; obtain ⟨o_st_3, e_o_st_3, hF⟩ := hF
  refine rx_pS2 C f_X5_43 dX5_begin_12 b_st e_o_st_3 (fun hh c_st ff => ?_)
  replace b_st := c_st
  replace fr := rx_frt fr ff (fun a ha => ⟨ha.1, trivial⟩)
  refine rx_aload_n C dX5_begin_15 0 rfl ?_
  refine rx_iload C dX5_begin_16 4 rfl ?_
  replace hF := rx_leE hF; obtain ⟨o_st_4, e_o_st_4, hF⟩ := hF
  refine rx_pS3 C f_X5_46 dX5_begin_18 b_st e_o_st_4 (fun hh c_st ff => ?_)
  replace b_st := c_st
  replace fr := rx_frt fr ff (fun a ha => ⟨ha.1, trivial⟩)
  refine rx_aload_n C dX5_begin_21 0 rfl ?_
  refine rx_iconst C dX5_begin_22 (0 : Int32) (by decide) ?_
  replace hF := rx_leE hF; obtain ⟨o_st_5, e_o_st_5, hF⟩ := hF
  refine rx_pS4 C f_X5_49 dX5_begin_23 b_st e_o_st_5 (fun hh c_st ff => ?_)
  replace b_st := c_st
  replace fr := rx_frt fr ff (fun a ha => ⟨ha.1, trivial⟩)
  refine rx_aload_n C dX5_begin_26 0 rfl ?_
  refine rx_iconst C dX5_begin_27 (0 : Int32) (by decide) ?_
  replace hF := rx_leE hF; obtain ⟨o_st_6, e_o_st_6, hF⟩ := hF
  refine rx_pS5 C f_X5_52 dX5_begin_28 b_st e_o_st_6 (fun hh c_st ff => ?_)
  replace b_st := c_st
  replace fr := rx_frt fr ff (fun a ha => ⟨ha.1, trivial⟩)
  obtain rfl := Option.some.inj hF
  exact rx_vret C dX5_begin_31 (Nat.le_refl _) (Nat.le_refl _) ⟨rfl, b_st, fr⟩
def F_X5_addPerson (ost : ob) (x1 : Int32) (x2 : Int32) (x3 : Int32) (x4 : Int32) (x5 : Int32) : Option (ob) := rx_le (ost.1, va_up ost.2 6 (rx_put 10 (ost.2 6) ((ost.1 4)) x1)) fun o_st_1 => rx_le (o_st_1.1, va_up o_st_1.2 7 (rx_put 10 (o_st_1.2 7) ((o_st_1.1 4)) x2)) fun o_st_2 => rx_le (o_st_2.1, va_up o_st_2.2 8 (rx_put 10 (o_st_2.2 8) ((o_st_2.1 4)) x3)) fun o_st_3 => rx_le (o_st_3.1, va_up o_st_3.2 9 (rx_put 10 (o_st_3.2 9) ((o_st_3.1 4)) x4)) fun o_st_4 => rx_le (o_st_4.1, va_up o_st_4.2 10 (rx_put 10 (o_st_4.2 10) ((o_st_4.1 4)) x5)) fun o_st_5 => rx_le (upd o_st_5.1 4 (((o_st_5.1 4) + (1 : Int32))), o_st_5.2) fun o_st_6 => some o_st_6
set_option maxRecDepth 100000 in
set_option maxHeartbeats 4000000 in
theorem w_X5_addPerson {g : Nat} {ost : ob} {x1 : Int32} {x2 : Int32} {x3 : Int32} {x4 : Int32} {x5 : Int32} {y : ob} (hF : F_X5_addPerson ost x1 x2 x3 x4 x5 = some y) (b_st : bS k g ost h) : Met l yX5_addPerson (rx_ws yX5_addPerson cX5_addPerson 6 none) (rx_rm 1 22) (va_Pc [.ref g, .int x1, .int x2, .int x3, .int x4, .int x5] (rx_G G k h n)) (va_Qv (fun u => u.2 = n ∧ bS k g y u.1 ∧ rx_fr [(g, 9)] h u.1) (rx_B G k) (rx_A k)) 0 0 (rx_A k) := by
  refine rx_start [(0, .ref g), (1, .int x1), (2, .int x2), (3, .int x3), (4, .int x4), (5, .int x5)] rfl (Nat.le_of_ble_eq_true rfl) (by decide) rfl (fun P9 E9 S9 M9 A9 B9 me9 c9 C hname => ?_)
  unfold F_X5_addPerson at hF
  have fr : rx_fr [(g, 9)] h h := rx_fr0
  refine rx_aload_n C dX5_addPerson_0 0 rfl ?_
  refine rx_getf C f_X5_9 dX5_addPerson_1 b_st.1 rfl ?_
  refine rx_aload_n C dX5_addPerson_4 0 rfl ?_
  refine rx_getf C f_X5_49 dX5_addPerson_5 b_st.1 rfl ?_
  refine rx_iload_n C dX5_addPerson_8 1 rfl ?_
  replace hF := rx_leE hF; obtain ⟨o_st_1, e_o_st_1, hF⟩ := hF
  refine rx_cv (rx_rSN C (w_put b_st.2.1 (by decide)) Y_X8_put S_X8_put m_X5_55 ⟨⟨rfl, rfl⟩, ⟨(Nat.le_of_ble_eq_true rfl), (Nat.le_of_ble_eq_true rfl)⟩, ⟨(Nat.le_of_ble_eq_true rfl), (Nat.le_of_ble_eq_true rfl)⟩⟩ rfl rfl (Nat.le_of_ble_eq_true rfl) dX5_addPerson_9) (fun hh n1 hpp => ?_)
  obtain ⟨c_st, ff, hn⟩ := b_st.wr6 e_o_st_1 hpp
  replace hn := Eq.symm hn
  subst hn
  replace b_st := c_st
  replace fr := rx_frt fr ff (fun a ha => ⟨ha.1, trivial⟩)
  refine rx_aload_n C dX5_addPerson_12 0 rfl ?_
  refine rx_getf C f_X5_15 dX5_addPerson_13 b_st.1 rfl ?_
  refine rx_aload_n C dX5_addPerson_16 0 rfl ?_
  refine rx_getf C f_X5_49 dX5_addPerson_17 b_st.1 rfl ?_
  refine rx_iload_n C dX5_addPerson_20 2 rfl ?_
  replace hF := rx_leE hF; obtain ⟨o_st_2, e_o_st_2, hF⟩ := hF
  refine rx_cv (rx_rSN C (w_put b_st.2.2.1 (by decide)) Y_X8_put S_X8_put m_X5_55 ⟨⟨rfl, rfl⟩, ⟨(Nat.le_of_ble_eq_true rfl), (Nat.le_of_ble_eq_true rfl)⟩, ⟨(Nat.le_of_ble_eq_true rfl), (Nat.le_of_ble_eq_true rfl)⟩⟩ rfl rfl (Nat.le_of_ble_eq_true rfl) dX5_addPerson_21) (fun hh n1 hpp => ?_)
  obtain ⟨c_st, ff, hn⟩ := b_st.wr7 e_o_st_2 hpp
  replace hn := Eq.symm hn
  subst hn
  replace b_st := c_st
  replace fr := rx_frt fr ff (fun a ha => ⟨ha.1, trivial⟩)
  refine rx_aload_n C dX5_addPerson_24 0 rfl ?_
  refine rx_getf C f_X5_18 dX5_addPerson_25 b_st.1 rfl ?_
  refine rx_aload_n C dX5_addPerson_28 0 rfl ?_
  refine rx_getf C f_X5_49 dX5_addPerson_29 b_st.1 rfl ?_
  refine rx_iload_n C dX5_addPerson_32 3 rfl ?_
  replace hF := rx_leE hF; obtain ⟨o_st_3, e_o_st_3, hF⟩ := hF
  refine rx_cv (rx_rSN C (w_put b_st.2.2.2.1 (by decide)) Y_X8_put S_X8_put m_X5_55 ⟨⟨rfl, rfl⟩, ⟨(Nat.le_of_ble_eq_true rfl), (Nat.le_of_ble_eq_true rfl)⟩, ⟨(Nat.le_of_ble_eq_true rfl), (Nat.le_of_ble_eq_true rfl)⟩⟩ rfl rfl (Nat.le_of_ble_eq_true rfl) dX5_addPerson_33) (fun hh n1 hpp => ?_)
  obtain ⟨c_st, ff, hn⟩ := b_st.wr8 e_o_st_3 hpp
  replace hn := Eq.symm hn
  subst hn
  replace b_st := c_st
  replace fr := rx_frt fr ff (fun a ha => ⟨ha.1, trivial⟩)
  refine rx_aload_n C dX5_addPerson_36 0 rfl ?_
  refine rx_getf C f_X5_21 dX5_addPerson_37 b_st.1 rfl ?_
  refine rx_aload_n C dX5_addPerson_40 0 rfl ?_
  refine rx_getf C f_X5_49 dX5_addPerson_41 b_st.1 rfl ?_
  refine rx_iload C dX5_addPerson_44 4 rfl ?_
  replace hF := rx_leE hF; obtain ⟨o_st_4, e_o_st_4, hF⟩ := hF
  refine rx_cv (rx_rSN C (w_put b_st.2.2.2.2.1 (by decide)) Y_X8_put S_X8_put m_X5_55 ⟨⟨rfl, rfl⟩, ⟨(Nat.le_of_ble_eq_true rfl), (Nat.le_of_ble_eq_true rfl)⟩, ⟨(Nat.le_of_ble_eq_true rfl), (Nat.le_of_ble_eq_true rfl)⟩⟩ rfl rfl (Nat.le_of_ble_eq_true rfl) dX5_addPerson_46) (fun hh n1 hpp => ?_)
  obtain ⟨c_st, ff, hn⟩ := b_st.wr9 e_o_st_4 hpp
  replace hn := Eq.symm hn
  subst hn
  replace b_st := c_st
  replace fr := rx_frt fr ff (fun a ha => ⟨ha.1, trivial⟩)
  refine rx_aload_n C dX5_addPerson_49 0 rfl ?_
  refine rx_getf C f_X5_24 dX5_addPerson_50 b_st.1 rfl ?_
  refine rx_aload_n C dX5_addPerson_53 0 rfl ?_
  refine rx_getf C f_X5_49 dX5_addPerson_54 b_st.1 rfl ?_
  refine rx_iload C dX5_addPerson_57 5 rfl ?_
  replace hF := rx_leE hF; obtain ⟨o_st_5, e_o_st_5, hF⟩ := hF
  refine rx_cv (rx_rSN C (w_put b_st.2.2.2.2.2.1 (by decide)) Y_X8_put S_X8_put m_X5_55 ⟨⟨rfl, rfl⟩, ⟨(Nat.le_of_ble_eq_true rfl), (Nat.le_of_ble_eq_true rfl)⟩, ⟨(Nat.le_of_ble_eq_true rfl), (Nat.le_of_ble_eq_true rfl)⟩⟩ rfl rfl (Nat.le_of_ble_eq_true rfl) dX5_addPerson_59) (fun hh n1 hpp => ?_)
  obtain ⟨c_st, ff, hn⟩ := b_st.wr10 e_o_st_5 hpp
  replace hn := Eq.symm hn
  subst hn
  replace b_st := c_st
  replace fr := rx_frt fr ff (fun a ha => ⟨ha.1, trivial⟩)
  refine rx_aload_n C dX5_addPerson_62 0 rfl ?_
  refine rx_dup C dX5_addPerson_63 rfl ?_
  refine rx_getf C f_X5_49 dX5_addPerson_64 b_st.1 rfl ?_
  refine rx_iconst C dX5_addPerson_67 (1 : Int32) (by decide) ?_
  refine rx_iadd C dX5_addPerson_68 ?_
  replace hF := rx_leE hF; obtain ⟨o_st_6, e_o_st_6, hF⟩ := hF
  refine rx_pS4 C f_X5_49 dX5_addPerson_69 b_st e_o_st_6 (fun hh c_st ff => ?_)
  replace b_st := c_st
  replace fr := rx_frt fr ff (fun a ha => ⟨ha.1, trivial⟩)
  obtain rfl := Option.some.inj hF
  exact rx_vret C dX5_addPerson_72 (Nat.le_refl _) (Nat.le_refl _) ⟨rfl, b_st, fr⟩
def F_X5_addBridge (ost : ob) (x1 : Int32) (x2 : Int32) (x3 : Int32) : Option (ob) := rx_le (ost.1, va_up ost.2 11 (rx_put 4 (ost.2 11) ((ost.1 5)) x1)) fun o_st_1 => rx_le (o_st_1.1, va_up o_st_1.2 12 (rx_put 4 (o_st_1.2 12) ((o_st_1.1 5)) x2)) fun o_st_2 => rx_le (o_st_2.1, va_up o_st_2.2 13 (rx_put 4 (o_st_2.2 13) ((o_st_2.1 5)) x3)) fun o_st_3 => rx_le (upd o_st_3.1 5 (((o_st_3.1 5) + (1 : Int32))), o_st_3.2) fun o_st_4 => some o_st_4
set_option maxRecDepth 100000 in
set_option maxHeartbeats 4000000 in
theorem w_X5_addBridge {g : Nat} {ost : ob} {x1 : Int32} {x2 : Int32} {x3 : Int32} {y : ob} (hF : F_X5_addBridge ost x1 x2 x3 = some y) (b_st : bS k g ost h) : Met l yX5_addBridge (rx_ws yX5_addBridge cX5_addBridge 4 none) (rx_rm 1 22) (va_Pc [.ref g, .int x1, .int x2, .int x3] (rx_G G k h n)) (va_Qv (fun u => u.2 = n ∧ bS k g y u.1 ∧ rx_fr [(g, 9)] h u.1) (rx_B G k) (rx_A k)) 0 0 (rx_A k) := by
  refine rx_start [(0, .ref g), (1, .int x1), (2, .int x2), (3, .int x3)] rfl (Nat.le_of_ble_eq_true rfl) (by decide) rfl (fun P9 E9 S9 M9 A9 B9 me9 c9 C hname => ?_)
  unfold F_X5_addBridge at hF
  have fr : rx_fr [(g, 9)] h h := rx_fr0
  refine rx_aload_n C dX5_addBridge_0 0 rfl ?_
  refine rx_getf C f_X5_27 dX5_addBridge_1 b_st.1 rfl ?_
  refine rx_aload_n C dX5_addBridge_4 0 rfl ?_
  refine rx_getf C f_X5_52 dX5_addBridge_5 b_st.1 rfl ?_
  refine rx_iload_n C dX5_addBridge_8 1 rfl ?_
  replace hF := rx_leE hF; obtain ⟨o_st_1, e_o_st_1, hF⟩ := hF
  refine rx_cv (rx_rSN C (w_put b_st.2.2.2.2.2.2.1 (by decide)) Y_X8_put S_X8_put m_X5_55 ⟨⟨rfl, rfl⟩, ⟨(Nat.le_of_ble_eq_true rfl), (Nat.le_of_ble_eq_true rfl)⟩, ⟨(Nat.le_of_ble_eq_true rfl), (Nat.le_of_ble_eq_true rfl)⟩⟩ rfl rfl (Nat.le_of_ble_eq_true rfl) dX5_addBridge_9) (fun hh n1 hpp => ?_)
  obtain ⟨c_st, ff, hn⟩ := b_st.wr11 e_o_st_1 hpp
  replace hn := Eq.symm hn
  subst hn
  replace b_st := c_st
  replace fr := rx_frt fr ff (fun a ha => ⟨ha.1, trivial⟩)
  refine rx_aload_n C dX5_addBridge_12 0 rfl ?_
  refine rx_getf C f_X5_30 dX5_addBridge_13 b_st.1 rfl ?_
  refine rx_aload_n C dX5_addBridge_16 0 rfl ?_
  refine rx_getf C f_X5_52 dX5_addBridge_17 b_st.1 rfl ?_
  refine rx_iload_n C dX5_addBridge_20 2 rfl ?_
  replace hF := rx_leE hF; obtain ⟨o_st_2, e_o_st_2, hF⟩ := hF
  refine rx_cv (rx_rSN C (w_put b_st.2.2.2.2.2.2.2.1 (by decide)) Y_X8_put S_X8_put m_X5_55 ⟨⟨rfl, rfl⟩, ⟨(Nat.le_of_ble_eq_true rfl), (Nat.le_of_ble_eq_true rfl)⟩, ⟨(Nat.le_of_ble_eq_true rfl), (Nat.le_of_ble_eq_true rfl)⟩⟩ rfl rfl (Nat.le_of_ble_eq_true rfl) dX5_addBridge_21) (fun hh n1 hpp => ?_)
  obtain ⟨c_st, ff, hn⟩ := b_st.wr12 e_o_st_2 hpp
  replace hn := Eq.symm hn
  subst hn
  replace b_st := c_st
  replace fr := rx_frt fr ff (fun a ha => ⟨ha.1, trivial⟩)
  refine rx_aload_n C dX5_addBridge_24 0 rfl ?_
  refine rx_getf C f_X5_33 dX5_addBridge_25 b_st.1 rfl ?_
  refine rx_aload_n C dX5_addBridge_28 0 rfl ?_
  refine rx_getf C f_X5_52 dX5_addBridge_29 b_st.1 rfl ?_
  refine rx_iload_n C dX5_addBridge_32 3 rfl ?_
  replace hF := rx_leE hF; obtain ⟨o_st_3, e_o_st_3, hF⟩ := hF
  refine rx_cv (rx_rSN C (w_put b_st.2.2.2.2.2.2.2.2 (by decide)) Y_X8_put S_X8_put m_X5_55 ⟨⟨rfl, rfl⟩, ⟨(Nat.le_of_ble_eq_true rfl), (Nat.le_of_ble_eq_true rfl)⟩, ⟨(Nat.le_of_ble_eq_true rfl), (Nat.le_of_ble_eq_true rfl)⟩⟩ rfl rfl (Nat.le_of_ble_eq_true rfl) dX5_addBridge_33) (fun hh n1 hpp => ?_)
  obtain ⟨c_st, ff, hn⟩ := b_st.wr13 e_o_st_3 hpp
  replace hn := Eq.symm hn
  subst hn
  replace b_st := c_st
  replace fr := rx_frt fr ff (fun a ha => ⟨ha.1, trivial⟩)
  refine rx_aload_n C dX5_addBridge_36 0 rfl ?_
  refine rx_dup C dX5_addBridge_37 rfl ?_
  refine rx_getf C f_X5_52 dX5_addBridge_38 b_st.1 rfl ?_
  refine rx_iconst C dX5_addBridge_41 (1 : Int32) (by decide) ?_
  refine rx_iadd C dX5_addBridge_42 ?_
  replace hF := rx_leE hF; obtain ⟨o_st_4, e_o_st_4, hF⟩ := hF
  refine rx_pS5 C f_X5_52 dX5_addBridge_43 b_st e_o_st_4 (fun hh c_st ff => ?_)
  replace b_st := c_st
  replace fr := rx_frt fr ff (fun a ha => ⟨ha.1, trivial⟩)
  obtain rfl := Option.some.inj hF
  exact rx_vret C dX5_addBridge_46 (Nat.le_refl _) (Nat.le_refl _) ⟨rfl, b_st, fr⟩
def F_X5_copyFrom (ost : ob) (ost2 : ob) : Option (ob) := rx_le (upd ost.1 0 ((ost2.1 0)), ost.2) fun o_st_1 => rx_le (upd o_st_1.1 1 ((ost2.1 1)), o_st_1.2) fun o_st_2 => rx_le (upd o_st_2.1 2 ((ost2.1 2)), o_st_2.2) fun o_st_3 => rx_le (upd o_st_3.1 3 ((ost2.1 3)), o_st_3.2) fun o_st_4 => rx_le (upd o_st_4.1 4 ((ost2.1 4)), o_st_4.2) fun o_st_5 => rx_le (upd o_st_5.1 5 ((ost2.1 5)), o_st_5.2) fun o_st_6 => rx_le (o_st_6.1, va_up o_st_6.2 6 (rx_cp 10 10 (ost2.2 6) (o_st_6.2 6))) fun o_st_7 => rx_le (o_st_7.1, va_up o_st_7.2 7 (rx_cp 10 10 (ost2.2 7) (o_st_7.2 7))) fun o_st_8 => rx_le (o_st_8.1, va_up o_st_8.2 8 (rx_cp 10 10 (ost2.2 8) (o_st_8.2 8))) fun o_st_9 => rx_le (o_st_9.1, va_up o_st_9.2 9 (rx_cp 10 10 (ost2.2 9) (o_st_9.2 9))) fun o_st_10 => rx_le (o_st_10.1, va_up o_st_10.2 10 (rx_cp 10 10 (ost2.2 10) (o_st_10.2 10))) fun o_st_11 => rx_le (o_st_11.1, va_up o_st_11.2 11 (rx_cp 4 4 (ost2.2 11) (o_st_11.2 11))) fun o_st_12 => rx_le (o_st_12.1, va_up o_st_12.2 12 (rx_cp 4 4 (ost2.2 12) (o_st_12.2 12))) fun o_st_13 => rx_le (o_st_13.1, va_up o_st_13.2 13 (rx_cp 4 4 (ost2.2 13) (o_st_13.2 13))) fun o_st_14 => some o_st_14
set_option maxRecDepth 100000 in
set_option maxHeartbeats 4000000 in
theorem w_X5_copyFrom {g g2 : Nat} {ost : ob} {ost2 : ob} {y : ob} (hF : F_X5_copyFrom ost ost2 = some y) (b_st : bS k g ost h) (b_st2 : bS k g2 ost2 h) (hd0 : g + 9 ≤ g2 ∨ g2 + 9 ≤ g) : Met l yX5_copyFrom (rx_ws yX5_copyFrom cX5_copyFrom 2 none) (rx_rm 2 61) (va_Pc [.ref g, .ref g2] (rx_G G k h n)) (va_Qv (fun u => u.2 = n ∧ bS k g y u.1 ∧ rx_fr [(g, 9)] h u.1) (rx_B G k) (rx_A k)) 0 0 (rx_A k) := by
  have s_st2_st : g2 + 9 ≤ g ∨ g + 9 ≤ g2 := by omega
  refine rx_start [(0, .ref g), (1, .ref g2)] rfl (Nat.le_of_ble_eq_true rfl) (by decide) rfl (fun P9 E9 S9 M9 A9 B9 me9 c9 C hname => ?_)
  unfold F_X5_copyFrom at hF
  have fr : rx_fr [(g, 9)] h h := rx_fr0
  refine rx_aload_n C dX5_copyFrom_0 0 rfl ?_
  refine rx_aload_n C dX5_copyFrom_1 1 rfl ?_
  refine rx_getf C f_X5_36 dX5_copyFrom_2 b_st2.1 rfl ?_
  replace hF := rx_leE hF; obtain ⟨o_st_1, e_o_st_1, hF⟩ := hF
  refine rx_pS0 C f_X5_36 dX5_copyFrom_5 b_st e_o_st_1 (fun hh c_st ff => ?_)
  replace b_st := c_st
  replace b_st2 := b_st2.keep ff ⟨s_st2_st, trivial⟩
  replace fr := rx_frt fr ff (fun a ha => ⟨ha.1, trivial⟩)
  refine rx_aload_n C dX5_copyFrom_8 0 rfl ?_
  refine rx_aload_n C dX5_copyFrom_9 1 rfl ?_
  refine rx_getf C f_X5_40 dX5_copyFrom_10 b_st2.1 rfl ?_
  replace hF := rx_leE hF; obtain ⟨o_st_2, e_o_st_2, hF⟩ := hF
  refine rx_pS1 C f_X5_40 dX5_copyFrom_13 b_st e_o_st_2 (fun hh c_st ff => ?_)
  replace b_st := c_st
  replace b_st2 := b_st2.keep ff ⟨s_st2_st, trivial⟩
  replace fr := rx_frt fr ff (fun a ha => ⟨ha.1, trivial⟩)
  refine rx_aload_n C dX5_copyFrom_16 0 rfl ?_
  refine rx_aload_n C dX5_copyFrom_17 1 rfl ?_
  refine rx_getf C f_X5_43 dX5_copyFrom_18 b_st2.1 rfl ?_
  replace hF := rx_leE hF; obtain ⟨o_st_3, e_o_st_3, hF⟩ := hF
  refine rx_pS2 C f_X5_43 dX5_copyFrom_21 b_st e_o_st_3 (fun hh c_st ff => ?_)
  replace b_st := c_st
  replace b_st2 := b_st2.keep ff ⟨s_st2_st, trivial⟩
  replace fr := rx_frt fr ff (fun a ha => ⟨ha.1, trivial⟩)
  refine rx_aload_n C dX5_copyFrom_24 0 rfl ?_
  refine rx_aload_n C dX5_copyFrom_25 1 rfl ?_
  refine rx_getf C f_X5_46 dX5_copyFrom_26 b_st2.1 rfl ?_
  replace hF := rx_leE hF; obtain ⟨o_st_4, e_o_st_4, hF⟩ := hF
  refine rx_pS3 C f_X5_46 dX5_copyFrom_29 b_st e_o_st_4 (fun hh c_st ff => ?_)
  replace b_st := c_st
  replace b_st2 := b_st2.keep ff ⟨s_st2_st, trivial⟩
  replace fr := rx_frt fr ff (fun a ha => ⟨ha.1, trivial⟩)
  refine rx_aload_n C dX5_copyFrom_32 0 rfl ?_
  refine rx_aload_n C dX5_copyFrom_33 1 rfl ?_
  refine rx_getf C f_X5_49 dX5_copyFrom_34 b_st2.1 rfl ?_
  replace hF := rx_leE hF; obtain ⟨o_st_5, e_o_st_5, hF⟩ := hF
  refine rx_pS4 C f_X5_49 dX5_copyFrom_37 b_st e_o_st_5 (fun hh c_st ff => ?_)
  replace b_st := c_st
  replace b_st2 := b_st2.keep ff ⟨s_st2_st, trivial⟩
  replace fr := rx_frt fr ff (fun a ha => ⟨ha.1, trivial⟩)
  refine rx_aload_n C dX5_copyFrom_40 0 rfl ?_
  refine rx_aload_n C dX5_copyFrom_41 1 rfl ?_
  refine rx_getf C f_X5_52 dX5_copyFrom_42 b_st2.1 rfl ?_
  replace hF := rx_leE hF; obtain ⟨o_st_6, e_o_st_6, hF⟩ := hF
  refine rx_pS5 C f_X5_52 dX5_copyFrom_45 b_st e_o_st_6 (fun hh c_st ff => ?_)
  replace b_st := c_st
  replace b_st2 := b_st2.keep ff ⟨s_st2_st, trivial⟩
  replace fr := rx_frt fr ff (fun a ha => ⟨ha.1, trivial⟩)
  refine rx_aload_n C dX5_copyFrom_48 1 rfl ?_
  refine rx_getf C f_X5_9 dX5_copyFrom_49 b_st2.1 rfl ?_
  refine rx_aload_n C dX5_copyFrom_52 0 rfl ?_
  refine rx_getf C f_X5_9 dX5_copyFrom_53 b_st.1 rfl ?_
  replace hF := rx_leE hF; obtain ⟨o_st_7, e_o_st_7, hF⟩ := hF
  refine rx_cv (rx_rSN C (w_copyRow b_st2.2.1 b_st.2.1 (by decide) (by decide)) Y_X8_copyRow S_X8_copyRow m_X5_59 ⟨⟨rfl, rfl⟩, ⟨(Nat.le_of_ble_eq_true rfl), (Nat.le_of_ble_eq_true rfl)⟩, ⟨(Nat.le_of_ble_eq_true rfl), (Nat.le_of_ble_eq_true rfl)⟩⟩ rfl rfl (Nat.le_of_ble_eq_true rfl) dX5_copyFrom_56) (fun hh n1 hpp => ?_)
  obtain ⟨c_st, ff, hn⟩ := b_st.wr6 e_o_st_7 hpp
  replace hn := Eq.symm hn
  subst hn
  replace b_st := c_st
  replace b_st2 := b_st2.keep ff ⟨s_st2_st, trivial⟩
  replace fr := rx_frt fr ff (fun a ha => ⟨ha.1, trivial⟩)
  refine rx_aload_n C dX5_copyFrom_59 1 rfl ?_
  refine rx_getf C f_X5_15 dX5_copyFrom_60 b_st2.1 rfl ?_
  refine rx_aload_n C dX5_copyFrom_63 0 rfl ?_
  refine rx_getf C f_X5_15 dX5_copyFrom_64 b_st.1 rfl ?_
  replace hF := rx_leE hF; obtain ⟨o_st_8, e_o_st_8, hF⟩ := hF
  refine rx_cv (rx_rSN C (w_copyRow b_st2.2.2.1 b_st.2.2.1 (by decide) (by decide)) Y_X8_copyRow S_X8_copyRow m_X5_59 ⟨⟨rfl, rfl⟩, ⟨(Nat.le_of_ble_eq_true rfl), (Nat.le_of_ble_eq_true rfl)⟩, ⟨(Nat.le_of_ble_eq_true rfl), (Nat.le_of_ble_eq_true rfl)⟩⟩ rfl rfl (Nat.le_of_ble_eq_true rfl) dX5_copyFrom_67) (fun hh n1 hpp => ?_)
  obtain ⟨c_st, ff, hn⟩ := b_st.wr7 e_o_st_8 hpp
  replace hn := Eq.symm hn
  subst hn
  replace b_st := c_st
  replace b_st2 := b_st2.keep ff ⟨s_st2_st, trivial⟩
  replace fr := rx_frt fr ff (fun a ha => ⟨ha.1, trivial⟩)
  refine rx_aload_n C dX5_copyFrom_70 1 rfl ?_
  refine rx_getf C f_X5_18 dX5_copyFrom_71 b_st2.1 rfl ?_
  refine rx_aload_n C dX5_copyFrom_74 0 rfl ?_
  refine rx_getf C f_X5_18 dX5_copyFrom_75 b_st.1 rfl ?_
  replace hF := rx_leE hF; obtain ⟨o_st_9, e_o_st_9, hF⟩ := hF
  refine rx_cv (rx_rSN C (w_copyRow b_st2.2.2.2.1 b_st.2.2.2.1 (by decide) (by decide)) Y_X8_copyRow S_X8_copyRow m_X5_59 ⟨⟨rfl, rfl⟩, ⟨(Nat.le_of_ble_eq_true rfl), (Nat.le_of_ble_eq_true rfl)⟩, ⟨(Nat.le_of_ble_eq_true rfl), (Nat.le_of_ble_eq_true rfl)⟩⟩ rfl rfl (Nat.le_of_ble_eq_true rfl) dX5_copyFrom_78) (fun hh n1 hpp => ?_)
  obtain ⟨c_st, ff, hn⟩ := b_st.wr8 e_o_st_9 hpp
  replace hn := Eq.symm hn
  subst hn
  replace b_st := c_st
  replace b_st2 := b_st2.keep ff ⟨s_st2_st, trivial⟩
  replace fr := rx_frt fr ff (fun a ha => ⟨ha.1, trivial⟩)
  refine rx_aload_n C dX5_copyFrom_81 1 rfl ?_
  refine rx_getf C f_X5_21 dX5_copyFrom_82 b_st2.1 rfl ?_
  refine rx_aload_n C dX5_copyFrom_85 0 rfl ?_
  refine rx_getf C f_X5_21 dX5_copyFrom_86 b_st.1 rfl ?_
  replace hF := rx_leE hF; obtain ⟨o_st_10, e_o_st_10, hF⟩ := hF
  refine rx_cv (rx_rSN C (w_copyRow b_st2.2.2.2.2.1 b_st.2.2.2.2.1 (by decide) (by decide)) Y_X8_copyRow S_X8_copyRow m_X5_59 ⟨⟨rfl, rfl⟩, ⟨(Nat.le_of_ble_eq_true rfl), (Nat.le_of_ble_eq_true rfl)⟩, ⟨(Nat.le_of_ble_eq_true rfl), (Nat.le_of_ble_eq_true rfl)⟩⟩ rfl rfl (Nat.le_of_ble_eq_true rfl) dX5_copyFrom_89) (fun hh n1 hpp => ?_)
  obtain ⟨c_st, ff, hn⟩ := b_st.wr9 e_o_st_10 hpp
  replace hn := Eq.symm hn
  subst hn
  replace b_st := c_st
  replace b_st2 := b_st2.keep ff ⟨s_st2_st, trivial⟩
  replace fr := rx_frt fr ff (fun a ha => ⟨ha.1, trivial⟩)
  refine rx_aload_n C dX5_copyFrom_92 1 rfl ?_
  refine rx_getf C f_X5_24 dX5_copyFrom_93 b_st2.1 rfl ?_
  refine rx_aload_n C dX5_copyFrom_96 0 rfl ?_
  refine rx_getf C f_X5_24 dX5_copyFrom_97 b_st.1 rfl ?_
  replace hF := rx_leE hF; obtain ⟨o_st_11, e_o_st_11, hF⟩ := hF
  refine rx_cv (rx_rSN C (w_copyRow b_st2.2.2.2.2.2.1 b_st.2.2.2.2.2.1 (by decide) (by decide)) Y_X8_copyRow S_X8_copyRow m_X5_59 ⟨⟨rfl, rfl⟩, ⟨(Nat.le_of_ble_eq_true rfl), (Nat.le_of_ble_eq_true rfl)⟩, ⟨(Nat.le_of_ble_eq_true rfl), (Nat.le_of_ble_eq_true rfl)⟩⟩ rfl rfl (Nat.le_of_ble_eq_true rfl) dX5_copyFrom_100) (fun hh n1 hpp => ?_)
  obtain ⟨c_st, ff, hn⟩ := b_st.wr10 e_o_st_11 hpp
  replace hn := Eq.symm hn
  subst hn
  replace b_st := c_st
  replace b_st2 := b_st2.keep ff ⟨s_st2_st, trivial⟩
  replace fr := rx_frt fr ff (fun a ha => ⟨ha.1, trivial⟩)
  refine rx_aload_n C dX5_copyFrom_103 1 rfl ?_
  refine rx_getf C f_X5_27 dX5_copyFrom_104 b_st2.1 rfl ?_
  refine rx_aload_n C dX5_copyFrom_107 0 rfl ?_
  refine rx_getf C f_X5_27 dX5_copyFrom_108 b_st.1 rfl ?_
  replace hF := rx_leE hF; obtain ⟨o_st_12, e_o_st_12, hF⟩ := hF
  refine rx_cv (rx_rSN C (w_copyRow b_st2.2.2.2.2.2.2.1 b_st.2.2.2.2.2.2.1 (by decide) (by decide)) Y_X8_copyRow S_X8_copyRow m_X5_59 ⟨⟨rfl, rfl⟩, ⟨(Nat.le_of_ble_eq_true rfl), (Nat.le_of_ble_eq_true rfl)⟩, ⟨(Nat.le_of_ble_eq_true rfl), (Nat.le_of_ble_eq_true rfl)⟩⟩ rfl rfl (Nat.le_of_ble_eq_true rfl) dX5_copyFrom_111) (fun hh n1 hpp => ?_)
  obtain ⟨c_st, ff, hn⟩ := b_st.wr11 e_o_st_12 hpp
  replace hn := Eq.symm hn
  subst hn
  replace b_st := c_st
  replace b_st2 := b_st2.keep ff ⟨s_st2_st, trivial⟩
  replace fr := rx_frt fr ff (fun a ha => ⟨ha.1, trivial⟩)
  refine rx_aload_n C dX5_copyFrom_114 1 rfl ?_
  refine rx_getf C f_X5_30 dX5_copyFrom_115 b_st2.1 rfl ?_
  refine rx_aload_n C dX5_copyFrom_118 0 rfl ?_
  refine rx_getf C f_X5_30 dX5_copyFrom_119 b_st.1 rfl ?_
  replace hF := rx_leE hF; obtain ⟨o_st_13, e_o_st_13, hF⟩ := hF
  refine rx_cv (rx_rSN C (w_copyRow b_st2.2.2.2.2.2.2.2.1 b_st.2.2.2.2.2.2.2.1 (by decide) (by decide)) Y_X8_copyRow S_X8_copyRow m_X5_59 ⟨⟨rfl, rfl⟩, ⟨(Nat.le_of_ble_eq_true rfl), (Nat.le_of_ble_eq_true rfl)⟩, ⟨(Nat.le_of_ble_eq_true rfl), (Nat.le_of_ble_eq_true rfl)⟩⟩ rfl rfl (Nat.le_of_ble_eq_true rfl) dX5_copyFrom_122) (fun hh n1 hpp => ?_)
  obtain ⟨c_st, ff, hn⟩ := b_st.wr12 e_o_st_13 hpp
  replace hn := Eq.symm hn
  subst hn
  replace b_st := c_st
  replace b_st2 := b_st2.keep ff ⟨s_st2_st, trivial⟩
  replace fr := rx_frt fr ff (fun a ha => ⟨ha.1, trivial⟩)
  refine rx_aload_n C dX5_copyFrom_125 1 rfl ?_
  refine rx_getf C f_X5_33 dX5_copyFrom_126 b_st2.1 rfl ?_
  refine rx_aload_n C dX5_copyFrom_129 0 rfl ?_
  refine rx_getf C f_X5_33 dX5_copyFrom_130 b_st.1 rfl ?_
  replace hF := rx_leE hF; obtain ⟨o_st_14, e_o_st_14, hF⟩ := hF
  refine rx_cv (rx_rSN C (w_copyRow b_st2.2.2.2.2.2.2.2.2 b_st.2.2.2.2.2.2.2.2 (by decide) (by decide)) Y_X8_copyRow S_X8_copyRow m_X5_59 ⟨⟨rfl, rfl⟩, ⟨(Nat.le_of_ble_eq_true rfl), (Nat.le_of_ble_eq_true rfl)⟩, ⟨(Nat.le_of_ble_eq_true rfl), (Nat.le_of_ble_eq_true rfl)⟩⟩ rfl rfl (Nat.le_of_ble_eq_true rfl) dX5_copyFrom_133) (fun hh n1 hpp => ?_)
  obtain ⟨c_st, ff, hn⟩ := b_st.wr13 e_o_st_14 hpp
  replace hn := Eq.symm hn
  subst hn
  replace b_st := c_st
  replace b_st2 := b_st2.keep ff ⟨s_st2_st, trivial⟩
  replace fr := rx_frt fr ff (fun a ha => ⟨ha.1, trivial⟩)
  obtain rfl := Option.some.inj hF
  exact rx_vret C dX5_copyFrom_136 (Nat.le_refl _) (Nat.le_refl _) ⟨rfl, b_st, fr⟩
def F_X5_hasPerson (ost : ob) (x1 : Int32) : Option (Int32) := if x1 < (0 : Int32) then (some ((0 : Int32))) else (if (ost.1 4) ≤ x1 then (some ((0 : Int32))) else (some ((1 : Int32))))
set_option maxRecDepth 100000 in
set_option maxHeartbeats 4000000 in
theorem w_X5_hasPerson {g : Nat} {ost : ob} {x1 : Int32} {y : Int32} (hF : F_X5_hasPerson ost x1 = some y) (b_st : bS k g ost h) : Met l yX5_hasPerson (rx_ws yX5_hasPerson cX5_hasPerson 2 (some .boolean)) (rx_rm 0 0) (va_Pc [.ref g, .int x1] (rx_G G k h n)) (va_Qi (fun r u => y = r ∧ (y = 0 ∨ y = 1) ∧ u = (h, n)) (rx_B G k) (rx_A k)) 0 0 (rx_A k) := by
  refine rx_start [(0, .ref g), (1, .int x1)] rfl (Nat.le_of_ble_eq_true rfl) (by decide) rfl (fun P9 E9 S9 M9 A9 B9 me9 c9 C hname => ?_)
  unfold F_X5_hasPerson at hF
  refine rx_iload_n C dX5_hasPerson_0 1 rfl ?_
  refine rx_if_lt C dX5_hasPerson_1 16 (by decide) (fun c1 => ?_) (fun c1 => ?_)
  · rw [if_pos c1] at hF
    refine rx_iconst C dX5_hasPerson_16 (0 : Int32) (by decide) ?_
    obtain rfl := Option.some.inj hF
    exact rx_zret C (rx_nz (Or.inl rfl)) dX5_hasPerson_17 (Nat.le_refl _) (Nat.le_refl _) ⟨rfl, (Or.inl rfl), rfl⟩
  · rw [if_neg c1] at hF
    refine rx_iload_n C dX5_hasPerson_4 1 rfl ?_
    refine rx_aload_n C dX5_hasPerson_5 0 rfl ?_
    refine rx_getf C f_X5_49 dX5_hasPerson_6 b_st.1 rfl ?_
    refine rx_icmp_ge C dX5_hasPerson_9 16 (by decide) (fun c2 => ?_) (fun c2 => ?_)
    · rw [if_pos c2] at hF
      refine rx_iconst C dX5_hasPerson_16 (0 : Int32) (by decide) ?_
      obtain rfl := Option.some.inj hF
      exact rx_zret C (rx_nz (Or.inl rfl)) dX5_hasPerson_17 (Nat.le_refl _) (Nat.le_refl _) ⟨rfl, (Or.inl rfl), rfl⟩
    · rw [if_neg c2] at hF
      refine rx_iconst C dX5_hasPerson_12 (1 : Int32) (by decide) ?_
      refine rx_goto C dX5_hasPerson_13 17 (by decide) ?_
      obtain rfl := Option.some.inj hF
      exact rx_zret C (rx_nz (Or.inr rfl)) dX5_hasPerson_17 (Nat.le_refl _) (Nat.le_refl _) ⟨rfl, (Or.inr rfl), rfl⟩
def F_X5_hasKing (ost : ob) (x1 : Int32) : Option (Int32) := (F_X5_hasPerson ost x1).bind fun y1 => if y1 = (0 : Int32) then (some ((0 : Int32))) else (if (rx_at 10 (ost.2 6) x1) = (1 : Int32) then (some ((1 : Int32))) else (some ((0 : Int32))))
set_option maxRecDepth 100000 in
set_option maxHeartbeats 4000000 in
theorem w_X5_hasKing {g : Nat} {ost : ob} {x1 : Int32} {y : Int32} (hF : F_X5_hasKing ost x1 = some y) (b_st : bS k g ost h) : Met l yX5_hasKing (rx_ws yX5_hasKing cX5_hasKing 2 (some .boolean)) (rx_rm 1 21) (va_Pc [.ref g, .int x1] (rx_G G k h n)) (va_Qi (fun r u => y = r ∧ (y = 0 ∨ y = 1) ∧ u = (h, n)) (rx_B G k) (rx_A k)) 0 0 (rx_A k) := by
  refine rx_start [(0, .ref g), (1, .int x1)] rfl (Nat.le_of_ble_eq_true rfl) (by decide) rfl (fun P9 E9 S9 M9 A9 B9 me9 c9 C hname => ?_)
  unfold F_X5_hasKing at hF
  refine rx_aload_n C dX5_hasKing_0 0 rfl ?_
  refine rx_iload_n C dX5_hasKing_1 1 rfl ?_
  replace hF := rx_biE hF; obtain ⟨y1, e_y1, hF⟩ := hF
  refine rx_ci (rx_rV C (w_X5_hasPerson e_y1 b_st) Y_X5_hasPerson V_X5_hasPerson m_X5_63 (Or.inl ⟨_, _, _, _, b_st.1, rfl⟩) ⟨⟨rfl, rfl⟩, ⟨(Nat.le_of_ble_eq_true rfl), (Nat.le_of_ble_eq_true rfl)⟩, ⟨(Nat.le_of_ble_eq_true rfl), (Nat.le_of_ble_eq_true rfl)⟩⟩ rfl rfl (Nat.le_of_ble_eq_true rfl) dX5_hasKing_2) (fun r hh n1 hpp => ?_)
  obtain ⟨rfl, bo_y1, hu⟩ := hpp
  cases hu
  refine rx_if_eq C dX5_hasKing_5 24 (by decide) (fun c2 => ?_) (fun c2 => ?_)
  · rw [if_pos c2] at hF
    refine rx_iconst C dX5_hasKing_24 (0 : Int32) (by decide) ?_
    obtain rfl := Option.some.inj hF
    exact rx_zret C (rx_nz (Or.inl rfl)) dX5_hasKing_25 (Nat.le_refl _) (Nat.le_refl _) ⟨rfl, (Or.inl rfl), rfl⟩
  · rw [if_neg c2] at hF
    refine rx_aload_n C dX5_hasKing_8 0 rfl ?_
    refine rx_getf C f_X5_9 dX5_hasKing_9 b_st.1 rfl ?_
    refine rx_iload_n C dX5_hasKing_12 1 rfl ?_
    refine rx_ci (rx_rSN C (w_at b_st.2.1 (by decide)) Y_X8_at S_X8_at m_X5_67 ⟨⟨rfl, rfl⟩, ⟨(Nat.le_of_ble_eq_true rfl), (Nat.le_of_ble_eq_true rfl)⟩, ⟨(Nat.le_of_ble_eq_true rfl), (Nat.le_of_ble_eq_true rfl)⟩⟩ rfl rfl (Nat.le_of_ble_eq_true rfl) dX5_hasKing_13) (fun r hh n1 hpp => ?_)
    obtain ⟨rfl, hu⟩ := hpp
    cases hu
    refine rx_iconst C dX5_hasKing_16 (1 : Int32) (by decide) ?_
    refine rx_icmp_ne C dX5_hasKing_17 24 (by decide) (fun c3 => ?_) (fun c3 => ?_)
    · rw [if_neg c3] at hF
      refine rx_iconst C dX5_hasKing_24 (0 : Int32) (by decide) ?_
      obtain rfl := Option.some.inj hF
      exact rx_zret C (rx_nz (Or.inl rfl)) dX5_hasKing_25 (Nat.le_refl _) (Nat.le_refl _) ⟨rfl, (Or.inl rfl), rfl⟩
    · rw [if_pos c3] at hF
      refine rx_iconst C dX5_hasKing_20 (1 : Int32) (by decide) ?_
      refine rx_goto C dX5_hasKing_21 25 (by decide) ?_
      obtain rfl := Option.some.inj hF
      exact rx_zret C (rx_nz (Or.inr rfl)) dX5_hasKing_25 (Nat.le_refl _) (Nat.le_refl _) ⟨rfl, (Or.inr rfl), rfl⟩
def F_X5_kingsInAll_4 (ost : ob) : Nat → Int32 → Int32 → Option (Int32 × Int32)
  | 0, _, _ => none
  | fu + 1, x1, x2 => if (ost.1 4) ≤ x2 then (some (x1, x2)) else (rx_le ((x1 + (rx_at 10 (ost.2 6) x2))) fun v4 => F_X5_kingsInAll_4 ost fu v4 ((x2 + 1)))
def F_X5_kingsInAll (ost : ob) : Option (Int32) := (F_X5_kingsInAll_4 ost 100000 ((0 : Int32)) ((0 : Int32))).bind fun zl5 => some zl5.1
set_option maxRecDepth 100000 in
set_option maxHeartbeats 4000000 in
theorem w_X5_kingsInAll {g : Nat} {ost : ob} {y : Int32} (hF : F_X5_kingsInAll ost = some y) (b_st : bS k g ost h) : Met l yX5_kingsInAll (rx_ws yX5_kingsInAll cX5_kingsInAll 3 (some .int)) (rx_rm 1 21) (va_Pc [.ref g] (rx_G G k h n)) (va_Qi (fun r u => y = r ∧ u = (h, n)) (rx_B G k) (rx_A k)) 0 0 (rx_A k) := by
  refine rx_start [(0, .ref g)] rfl (Nat.le_of_ble_eq_true rfl) (by decide) rfl (fun P9 E9 S9 M9 A9 B9 me9 c9 C hname => ?_)
  unfold F_X5_kingsInAll at hF
  refine rx_iconst C dX5_kingsInAll_0 (0 : Int32) (by decide) ?_
  refine rx_istore_n C dX5_kingsInAll_1 (by decide) [(1, .int ((0 : Int32))), (0, .ref g)] rfl ?_
  refine rx_iconst C dX5_kingsInAll_2 (0 : Int32) (by decide) ?_
  refine rx_istore_n C dX5_kingsInAll_3 (by decide) [(2, .int ((0 : Int32))), (1, .int ((0 : Int32))), (0, .ref g)] rfl ?_
  have loop2 : ∀ (fu : Nat) (zz : Int32 × Int32)  (x1 : Int32) (x2 : Int32), F_X5_kingsInAll_4 ost fu x1 x2 = some zz → bS k g ost h → (rx_W P9 l E9 (rx_rm 1 21) S9 M9 A9 B9 me9 c9 (MQ B9 (va_Qi (fun r u => y = r ∧ u = (h, n)) (rx_B G k) (rx_A k)) A9 S9 0 0 (rx_A k)) G k 3 0 0 h n 29 [(0, .ref g), (1, .int zz.1), (2, .int zz.2)] []) → rx_W P9 l E9 (rx_rm 1 21) S9 M9 A9 B9 me9 c9 (MQ B9 (va_Qi (fun r u => y = r ∧ u = (h, n)) (rx_B G k) (rx_A k)) A9 S9 0 0 (rx_A k)) G k 3 0 0 h n 4 [(0, .ref g), (1, .int x1), (2, .int x2)] [] := by
    intro fu
    induction fu with
    | zero => intro zz x1 x2 hF b_st KK; exact absurd hF (by simp [F_X5_kingsInAll_4])
    | succ fu ih_loop2 =>
      intro zz x1 x2 hF b_st KK
      unfold F_X5_kingsInAll_4 at hF
      refine rx_iload_n C dX5_kingsInAll_4 2 rfl ?_
      refine rx_aload_n C dX5_kingsInAll_5 0 rfl ?_
      refine rx_getf C f_X5_49 dX5_kingsInAll_6 b_st.1 rfl ?_
      refine rx_icmp_ge C dX5_kingsInAll_9 29 (by decide) (fun c3 => ?_) (fun c3 => ?_)
      · rw [if_pos c3] at hF
        obtain rfl := Option.some.inj hF
        refine rx_sub [0, 1, 2] rfl ?_
        exact KK
      · rw [if_neg c3] at hF
        refine rx_iload_n C dX5_kingsInAll_12 1 rfl ?_
        refine rx_aload_n C dX5_kingsInAll_13 0 rfl ?_
        refine rx_getf C f_X5_9 dX5_kingsInAll_14 b_st.1 rfl ?_
        refine rx_iload_n C dX5_kingsInAll_17 2 rfl ?_
        refine rx_ci (rx_rSN C (w_at b_st.2.1 (by decide)) Y_X8_at S_X8_at m_X5_67 ⟨⟨rfl, rfl⟩, ⟨(Nat.le_of_ble_eq_true rfl), (Nat.le_of_ble_eq_true rfl)⟩, ⟨(Nat.le_of_ble_eq_true rfl), (Nat.le_of_ble_eq_true rfl)⟩⟩ rfl rfl (Nat.le_of_ble_eq_true rfl) dX5_kingsInAll_18) (fun r hh n1 hpp => ?_)
        obtain ⟨rfl, hu⟩ := hpp
        cases hu
        refine rx_iadd C dX5_kingsInAll_21 ?_
        replace hF := rx_leE hF; obtain ⟨v4, e_v4, hF⟩ := hF
        rw [e_v4]
        refine rx_istore_n C dX5_kingsInAll_22 (by decide) [(1, .int v4), (0, .ref g), (2, .int x2)] rfl ?_
        refine rx_iinc C dX5_kingsInAll_23 2 rfl (x2 + 1) rfl (by decide) [(2, .int ((x2 + 1))), (1, .int v4), (0, .ref g)] rfl ?_
        refine rx_goto C dX5_kingsInAll_26 4 (by decide) ?_
        refine rx_sub [2, 1, 0] rfl ?_
        exact ih_loop2 _ _ _ hF b_st KK
  refine rx_sub [2, 1, 0] rfl ?_
  replace hF := rx_biE hF; obtain ⟨zl5, e_zl5, hF⟩ := hF
  refine loop2 _ zl5 _ _ e_zl5 b_st ?_
  refine rx_iload_n C dX5_kingsInAll_29 1 rfl ?_
  obtain rfl := Option.some.inj hF
  exact rx_iret C dX5_kingsInAll_30 (Nat.le_refl _) (Nat.le_refl _) ⟨rfl, rfl⟩
def F_X5_coinsInAll_4 (ost : ob) : Nat → Int32 → Int32 → Option (Int32 × Int32)
  | 0, _, _ => none
  | fu + 1, x1, x2 => if (ost.1 4) ≤ x2 then (some (x1, x2)) else (rx_le ((x1 + (rx_at 10 (ost.2 8) x2))) fun v4 => F_X5_coinsInAll_4 ost fu v4 ((x2 + 1)))
def F_X5_coinsInAll (ost : ob) : Option (Int32) := (F_X5_coinsInAll_4 ost 100000 ((0 : Int32)) ((0 : Int32))).bind fun zl5 => some zl5.1
set_option maxRecDepth 100000 in
set_option maxHeartbeats 4000000 in
theorem w_X5_coinsInAll {g : Nat} {ost : ob} {y : Int32} (hF : F_X5_coinsInAll ost = some y) (b_st : bS k g ost h) : Met l yX5_coinsInAll (rx_ws yX5_coinsInAll cX5_coinsInAll 3 (some .int)) (rx_rm 1 21) (va_Pc [.ref g] (rx_G G k h n)) (va_Qi (fun r u => y = r ∧ u = (h, n)) (rx_B G k) (rx_A k)) 0 0 (rx_A k) := by
  refine rx_start [(0, .ref g)] rfl (Nat.le_of_ble_eq_true rfl) (by decide) rfl (fun P9 E9 S9 M9 A9 B9 me9 c9 C hname => ?_)
  unfold F_X5_coinsInAll at hF
  refine rx_iconst C dX5_coinsInAll_0 (0 : Int32) (by decide) ?_
  refine rx_istore_n C dX5_coinsInAll_1 (by decide) [(1, .int ((0 : Int32))), (0, .ref g)] rfl ?_
  refine rx_iconst C dX5_coinsInAll_2 (0 : Int32) (by decide) ?_
  refine rx_istore_n C dX5_coinsInAll_3 (by decide) [(2, .int ((0 : Int32))), (1, .int ((0 : Int32))), (0, .ref g)] rfl ?_
  have loop2 : ∀ (fu : Nat) (zz : Int32 × Int32)  (x1 : Int32) (x2 : Int32), F_X5_coinsInAll_4 ost fu x1 x2 = some zz → bS k g ost h → (rx_W P9 l E9 (rx_rm 1 21) S9 M9 A9 B9 me9 c9 (MQ B9 (va_Qi (fun r u => y = r ∧ u = (h, n)) (rx_B G k) (rx_A k)) A9 S9 0 0 (rx_A k)) G k 3 0 0 h n 29 [(0, .ref g), (1, .int zz.1), (2, .int zz.2)] []) → rx_W P9 l E9 (rx_rm 1 21) S9 M9 A9 B9 me9 c9 (MQ B9 (va_Qi (fun r u => y = r ∧ u = (h, n)) (rx_B G k) (rx_A k)) A9 S9 0 0 (rx_A k)) G k 3 0 0 h n 4 [(0, .ref g), (1, .int x1), (2, .int x2)] [] := by
    intro fu
    induction fu with
    | zero => intro zz x1 x2 hF b_st KK; exact absurd hF (by simp [F_X5_coinsInAll_4])
    | succ fu ih_loop2 =>
      intro zz x1 x2 hF b_st KK
      unfold F_X5_coinsInAll_4 at hF
      refine rx_iload_n C dX5_coinsInAll_4 2 rfl ?_
      refine rx_aload_n C dX5_coinsInAll_5 0 rfl ?_
      refine rx_getf C f_X5_49 dX5_coinsInAll_6 b_st.1 rfl ?_
      refine rx_icmp_ge C dX5_coinsInAll_9 29 (by decide) (fun c3 => ?_) (fun c3 => ?_)
      · rw [if_pos c3] at hF
        obtain rfl := Option.some.inj hF
        refine rx_sub [0, 1, 2] rfl ?_
        exact KK
      · rw [if_neg c3] at hF
        refine rx_iload_n C dX5_coinsInAll_12 1 rfl ?_
        refine rx_aload_n C dX5_coinsInAll_13 0 rfl ?_
        refine rx_getf C f_X5_18 dX5_coinsInAll_14 b_st.1 rfl ?_
        refine rx_iload_n C dX5_coinsInAll_17 2 rfl ?_
        refine rx_ci (rx_rSN C (w_at b_st.2.2.2.1 (by decide)) Y_X8_at S_X8_at m_X5_67 ⟨⟨rfl, rfl⟩, ⟨(Nat.le_of_ble_eq_true rfl), (Nat.le_of_ble_eq_true rfl)⟩, ⟨(Nat.le_of_ble_eq_true rfl), (Nat.le_of_ble_eq_true rfl)⟩⟩ rfl rfl (Nat.le_of_ble_eq_true rfl) dX5_coinsInAll_18) (fun r hh n1 hpp => ?_)
        obtain ⟨rfl, hu⟩ := hpp
        cases hu
        refine rx_iadd C dX5_coinsInAll_21 ?_
        replace hF := rx_leE hF; obtain ⟨v4, e_v4, hF⟩ := hF
        rw [e_v4]
        refine rx_istore_n C dX5_coinsInAll_22 (by decide) [(1, .int v4), (0, .ref g), (2, .int x2)] rfl ?_
        refine rx_iinc C dX5_coinsInAll_23 2 rfl (x2 + 1) rfl (by decide) [(2, .int ((x2 + 1))), (1, .int v4), (0, .ref g)] rfl ?_
        refine rx_goto C dX5_coinsInAll_26 4 (by decide) ?_
        refine rx_sub [2, 1, 0] rfl ?_
        exact ih_loop2 _ _ _ hF b_st KK
  refine rx_sub [2, 1, 0] rfl ?_
  replace hF := rx_biE hF; obtain ⟨zl5, e_zl5, hF⟩ := hF
  refine loop2 _ zl5 _ _ e_zl5 b_st ?_
  refine rx_iload_n C dX5_coinsInAll_29 1 rfl ?_
  obtain rfl := Option.some.inj hF
  exact rx_iret C dX5_coinsInAll_30 (Nat.le_refl _) (Nat.le_refl _) ⟨rfl, rfl⟩
def F_X5_tollFor (ost : ob) (x1 : Int32) : Option (Int32) := if x1 = (0 : Int32) then (some ((ost.1 3))) else (some ((ost.1 2)))
set_option maxRecDepth 100000 in
set_option maxHeartbeats 4000000 in
theorem w_X5_tollFor {g : Nat} {ost : ob} {x1 : Int32} {y : Int32} (hF : F_X5_tollFor ost x1 = some y) (b_st : bS k g ost h) : Met l yX5_tollFor (rx_ws yX5_tollFor cX5_tollFor 2 (some .int)) (rx_rm 0 0) (va_Pc [.ref g, .int x1] (rx_G G k h n)) (va_Qi (fun r u => y = r ∧ u = (h, n)) (rx_B G k) (rx_A k)) 0 0 (rx_A k) := by
  refine rx_start [(0, .ref g), (1, .int x1)] rfl (Nat.le_of_ble_eq_true rfl) (by decide) rfl (fun P9 E9 S9 M9 A9 B9 me9 c9 C hname => ?_)
  unfold F_X5_tollFor at hF
  refine rx_iload_n C dX5_tollFor_0 1 rfl ?_
  refine rx_if_eq C dX5_tollFor_1 11 (by decide) (fun c1 => ?_) (fun c1 => ?_)
  · rw [if_pos c1] at hF
    refine rx_aload_n C dX5_tollFor_11 0 rfl ?_
    refine rx_getf C f_X5_46 dX5_tollFor_12 b_st.1 rfl ?_
    obtain rfl := Option.some.inj hF
    exact rx_iret C dX5_tollFor_15 (Nat.le_refl _) (Nat.le_refl _) ⟨rfl, rfl⟩
  · rw [if_neg c1] at hF
    refine rx_aload_n C dX5_tollFor_4 0 rfl ?_
    refine rx_getf C f_X5_43 dX5_tollFor_5 b_st.1 rfl ?_
    refine rx_goto C dX5_tollFor_8 15 (by decide) ?_
    obtain rfl := Option.some.inj hF
    exact rx_iret C dX5_tollFor_15 (Nat.le_refl _) (Nat.le_refl _) ⟨rfl, rfl⟩
def F_X5_opens (ost : ob) (x1 : Int32) (x2 : Int32) : Option (Int32) := rx_le ((rx_at 4 (ost.2 11) x1)) fun v1 => if v1 ≤ (0 : Int32) then (some ((0 : Int32))) else ((rx_rem x2 v1).bind fun v3 => if v3 = (rx_at 4 (ost.2 12) x1) then (some ((1 : Int32))) else (some ((0 : Int32))))
set_option maxRecDepth 100000 in
set_option maxHeartbeats 4000000 in
theorem w_X5_opens {g : Nat} {ost : ob} {x1 : Int32} {x2 : Int32} {y : Int32} (hF : F_X5_opens ost x1 x2 = some y) (b_st : bS k g ost h) : Met l yX5_opens (rx_ws yX5_opens cX5_opens 4 (some .boolean)) (rx_rm 1 21) (va_Pc [.ref g, .int x1, .int x2] (rx_G G k h n)) (va_Qi (fun r u => y = r ∧ (y = 0 ∨ y = 1) ∧ u = (h, n)) (rx_B G k) (rx_A k)) 0 0 (rx_A k) := by
  refine rx_start [(0, .ref g), (1, .int x1), (2, .int x2)] rfl (Nat.le_of_ble_eq_true rfl) (by decide) rfl (fun P9 E9 S9 M9 A9 B9 me9 c9 C hname => ?_)
  unfold F_X5_opens at hF
  refine rx_aload_n C dX5_opens_0 0 rfl ?_
  refine rx_getf C f_X5_27 dX5_opens_1 b_st.1 rfl ?_
  refine rx_iload_n C dX5_opens_4 1 rfl ?_
  refine rx_ci (rx_rSN C (w_at b_st.2.2.2.2.2.2.1 (by decide)) Y_X8_at S_X8_at m_X5_67 ⟨⟨rfl, rfl⟩, ⟨(Nat.le_of_ble_eq_true rfl), (Nat.le_of_ble_eq_true rfl)⟩, ⟨(Nat.le_of_ble_eq_true rfl), (Nat.le_of_ble_eq_true rfl)⟩⟩ rfl rfl (Nat.le_of_ble_eq_true rfl) dX5_opens_5) (fun r hh n1 hpp => ?_)
  obtain ⟨rfl, hu⟩ := hpp
  cases hu
  replace hF := rx_leE hF; obtain ⟨v1, e_v1, hF⟩ := hF
  rw [e_v1]
  refine rx_istore_n C dX5_opens_8 (by decide) [(3, .int v1), (0, .ref g), (1, .int x1), (2, .int x2)] rfl ?_
  refine rx_iload_n C dX5_opens_9 0 rfl ?_
  refine rx_if_le C dX5_opens_10 31 (by decide) (fun c2 => ?_) (fun c2 => ?_)
  · rw [if_pos c2] at hF
    refine rx_iconst C dX5_opens_31 (0 : Int32) (by decide) ?_
    obtain rfl := Option.some.inj hF
    exact rx_zret C (rx_nz (Or.inl rfl)) dX5_opens_32 (Nat.le_refl _) (Nat.le_refl _) ⟨rfl, (Or.inl rfl), rfl⟩
  · rw [if_neg c2] at hF
    refine rx_iload_n C dX5_opens_13 3 rfl ?_
    refine rx_iload_n C dX5_opens_14 0 rfl ?_
    replace hF := rx_biE hF; obtain ⟨v3, e_v3, hF⟩ := hF
    refine rx_iremF C dX5_opens_15 e_v3 ?_
    refine rx_aload_n C dX5_opens_16 1 rfl ?_
    refine rx_getf C f_X5_30 dX5_opens_17 b_st.1 rfl ?_
    refine rx_iload_n C dX5_opens_20 2 rfl ?_
    refine rx_ci (rx_rSN C (w_at b_st.2.2.2.2.2.2.2.1 (by decide)) Y_X8_at S_X8_at m_X5_67 ⟨⟨rfl, rfl⟩, ⟨(Nat.le_of_ble_eq_true rfl), (Nat.le_of_ble_eq_true rfl)⟩, ⟨(Nat.le_of_ble_eq_true rfl), (Nat.le_of_ble_eq_true rfl)⟩⟩ rfl rfl (Nat.le_of_ble_eq_true rfl) dX5_opens_21) (fun r hh n1 hpp => ?_)
    obtain ⟨rfl, hu⟩ := hpp
    cases hu
    refine rx_icmp_ne C dX5_opens_24 31 (by decide) (fun c4 => ?_) (fun c4 => ?_)
    · rw [if_neg c4] at hF
      refine rx_iconst C dX5_opens_31 (0 : Int32) (by decide) ?_
      obtain rfl := Option.some.inj hF
      exact rx_zret C (rx_nz (Or.inl rfl)) dX5_opens_32 (Nat.le_refl _) (Nat.le_refl _) ⟨rfl, (Or.inl rfl), rfl⟩
    · rw [if_pos c4] at hF
      refine rx_iconst C dX5_opens_27 (1 : Int32) (by decide) ?_
      refine rx_goto C dX5_opens_28 32 (by decide) ?_
      obtain rfl := Option.some.inj hF
      exact rx_zret C (rx_nz (Or.inr rfl)) dX5_opens_32 (Nat.le_refl _) (Nat.le_refl _) ⟨rfl, (Or.inr rfl), rfl⟩
end GEN
