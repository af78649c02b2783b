section GEN
variable {l : Launch} {G : va_G} {k : Nat → Nat} {h : hp} {n : Nat}
def F_X2_letFirstTry_w (op : ob) (ow : ob) (ost : ob) : Option (Int32 × ob × ob) := (F_X3_personAt ow ((0 : Int32))).bind fun y1 => (F_X2_keeperAngleIn op ost y1 ((rx_at 10 (op.2 8) y1))).bind fun y2 => if (op.1 2) ≤ y2 then ((F_X3_offerAt ow ((0 : Int32))).bind fun y4 => (F_X5_tollFor ost ((0 : Int32))).bind fun y5 => rx_le ((y4 + y5)) fun v6 => (F_X3_removeAt ow ((0 : Int32))).bind fun y7 => if v6 ≤ (rx_at 10 (op.2 6) y1) then (rx_le (op.1, va_up op.2 6 (rx_put 10 (op.2 6) y1 (rx_at 10 (op.2 6) y1 + (-v6)))) fun o_p_9 => rx_le (upd o_p_9.1 3 (((o_p_9.1 3) + v6)), o_p_9.2) fun o_p_10 => (F_X2_departureBank o_p_10).bind fun y11 => if y11 = (0 : Int32) then (rx_le (o_p_10.1, va_up o_p_10.2 5 (rx_put 10 (o_p_10.2 5) y1 ((1 : Int32)))) fun o_p_18 => rx_le (o_p_18.1, va_up o_p_18.2 9 (rx_put 10 (o_p_18.2 9) y1 (rx_at 10 (o_p_18.2 9) y1 + (1 : Int32)))) fun o_p_19 => (F_X2_countRoyalCoinsOf o_p_19 ost y1).bind fun y20 => (F_X5_hasKing ost y1).bind fun y21 => (F_X2_learn y20 ost ((0 : Int32)) y21).bind fun y22 => some ((1 : Int32), y22, y7)) else (rx_le (o_p_10.1, va_up o_p_10.2 5 (rx_put 10 (o_p_10.2 5) y1 ((0 : Int32)))) fun o_p_13 => rx_le (o_p_13.1, va_up o_p_13.2 9 (rx_put 10 (o_p_13.2 9) y1 (rx_at 10 (o_p_13.2 9) y1 + (1 : Int32)))) fun o_p_14 => (F_X2_countRoyalCoinsOf o_p_14 ost y1).bind fun y15 => (F_X5_hasKing ost y1).bind fun y16 => (F_X2_learn y15 ost ((0 : Int32)) y16).bind fun y17 => some ((1 : Int32), y17, y7))) else (some ((0 : Int32), op, y7))) else ((F_X3_offerAt ow ((0 : Int32))).bind fun y23 => (F_X5_tollFor ost ((1 : Int32))).bind fun y24 => rx_le ((y23 + y24)) fun v25 => (F_X3_removeAt ow ((0 : Int32))).bind fun y26 => if v25 ≤ (rx_at 10 (op.2 6) y1) then (rx_le (op.1, va_up op.2 6 (rx_put 10 (op.2 6) y1 (rx_at 10 (op.2 6) y1 + (-v25)))) fun o_p_28 => rx_le (upd o_p_28.1 3 (((o_p_28.1 3) + v25)), o_p_28.2) fun o_p_29 => (F_X2_departureBank o_p_29).bind fun y30 => if y30 = (0 : Int32) then (rx_le (o_p_29.1, va_up o_p_29.2 5 (rx_put 10 (o_p_29.2 5) y1 ((1 : Int32)))) fun o_p_37 => rx_le (o_p_37.1, va_up o_p_37.2 9 (rx_put 10 (o_p_37.2 9) y1 (rx_at 10 (o_p_37.2 9) y1 + (1 : Int32)))) fun o_p_38 => (F_X2_countRoyalCoinsOf o_p_38 ost y1).bind fun y39 => (F_X5_hasKing ost y1).bind fun y40 => (F_X2_learn y39 ost ((1 : Int32)) y40).bind fun y41 => some ((1 : Int32), y41, y26)) else (rx_le (o_p_29.1, va_up o_p_29.2 5 (rx_put 10 (o_p_29.2 5) y1 ((0 : Int32)))) fun o_p_32 => rx_le (o_p_32.1, va_up o_p_32.2 9 (rx_put 10 (o_p_32.2 9) y1 (rx_at 10 (o_p_32.2 9) y1 + (1 : Int32)))) fun o_p_33 => (F_X2_countRoyalCoinsOf o_p_33 ost y1).bind fun y34 => (F_X5_hasKing ost y1).bind fun y35 => (F_X2_learn y34 ost ((1 : Int32)) y35).bind fun y36 => some ((1 : Int32), y36, y26))) else (some ((0 : Int32), op, y26)))
set_option maxRecDepth 100000 in
set_option maxHeartbeats 4000000 in
theorem w_X2_letFirstTry_w {q g : Nat} {op : ob} {ow : ob} {ost : ob} {y : Int32 × ob × ob} (hF : F_X2_letFirstTry_w op ow ost = some y) (b_p : bP k q g op h) (b_w : bQ k (q + 10) ow h) (b_st : bS k g ost h) (hd0 : q + 16 ≤ g ∨ g + 9 ≤ q) : Met l yX2_letFirstTry (rx_ws yX2_letFirstTry cX2_letFirstTry 5 (some .int)) (rx_rm 2 44) (va_Pc [.ref q, .ref (q + 10)] (rx_G G k h n)) (va_Qi (fun r u => y.1 = r ∧ u.2 = n ∧ bP k q g y.2.1 u.1 ∧ bQ k (q + 10) y.2.2 u.1 ∧ rx_fr [(q, 10), (q + 10, 3)] h u.1) (rx_B G k) (rx_A k)) 0 0 (rx_A k) := by
  have s_p_w : q + 10 ≤ q + 10 ∨ q + 10 + 3 ≤ q := by omega
  have s_st_w : g + 9 ≤ q + 10 ∨ q + 10 + 3 ≤ g := by omega
  have s_w_p : q + 10 + 3 ≤ q ∨ q + 10 ≤ q + 10 := by omega
  have s_st_p : g + 9 ≤ q ∨ q + 10 ≤ g := by omega
  refine rx_start [(0, .ref q), (1, .ref (q + 10))] rfl (Nat.le_of_ble_eq_true rfl) (by decide) rfl (fun P9 E9 S9 M9 A9 B9 me9 c9 C hname => ?_)
  unfold F_X2_letFirstTry_w at hF
  have fr : rx_fr [(q, 10), (q + 10, 3)] h h := rx_fr0
  refine rx_aload_n C dX2_letFirstTry_0 1 rfl ?_
  refine rx_iconst C dX2_letFirstTry_1 (0 : Int32) (by decide) ?_
  replace hF := rx_biE hF; obtain ⟨y1, e_y1, hF⟩ := hF
  refine rx_ci (rx_rVN C (w_X3_personAt e_y1 b_w) Y_X3_personAt V_X3_personAt m_X2_153 (Or.inl ⟨_, _, _, _, b_w.1, rfl⟩) ⟨⟨rfl, rfl⟩, ⟨(Nat.le_of_ble_eq_true rfl), (Nat.le_of_ble_eq_true rfl)⟩, ⟨(Nat.le_of_ble_eq_true rfl), (Nat.le_of_ble_eq_true rfl)⟩⟩ rfl rfl (Nat.le_of_ble_eq_true rfl) dX2_letFirstTry_2) (fun r hh n1 hpp => ?_)
  obtain ⟨rfl, hu⟩ := hpp
  cases hu
  refine rx_istore_n C dX2_letFirstTry_5 (by decide) [(2, .int y1), (0, .ref q), (1, .ref (q + 10))] rfl ?_
  refine rx_aload_n C dX2_letFirstTry_6 1 rfl ?_
  refine rx_iload_n C dX2_letFirstTry_7 0 rfl ?_
  refine rx_aload_n C dX2_letFirstTry_8 1 rfl ?_
  refine rx_getf C f_X2_24 dX2_letFirstTry_9 b_p.1 rfl ?_
  refine rx_iload_n C dX2_letFirstTry_12 0 rfl ?_
  refine rx_ci (rx_rSN C (w_at b_p.2.2.2.2.2.1 (by decide)) Y_X8_at S_X8_at m_X2_91 ⟨⟨rfl, rfl⟩, ⟨(Nat.le_of_ble_eq_true rfl), (Nat.le_of_ble_eq_true rfl)⟩, ⟨(Nat.le_of_ble_eq_true rfl), (Nat.le_of_ble_eq_true rfl)⟩⟩ rfl rfl (Nat.le_of_ble_eq_true rfl) dX2_letFirstTry_13) (fun r hh n1 hpp => ?_)
  obtain ⟨rfl, hu⟩ := hpp
  cases hu
  replace hF := rx_biE hF; obtain ⟨y2, e_y2, hF⟩ := hF
  refine rx_ci (rx_rV C (w_X2_keeperAngleIn e_y2 b_p b_st (by omega)) Y_X2_keeperAngleIn V_X2_keeperAngleIn m_X2_105 (Or.inl ⟨_, _, _, _, b_p.1, rfl⟩) ⟨⟨rfl, rfl⟩, ⟨(Nat.le_of_ble_eq_true rfl), (Nat.le_of_ble_eq_true rfl)⟩, ⟨(Nat.le_of_ble_eq_true rfl), (Nat.le_of_ble_eq_true rfl)⟩⟩ rfl rfl (Nat.le_of_ble_eq_true rfl) dX2_letFirstTry_16) (fun r hh n1 hpp => ?_)
  obtain ⟨rfl, hu⟩ := hpp
  cases hu
  refine rx_aload_n C dX2_letFirstTry_19 1 rfl ?_
  refine rx_getf C f_X2_62 dX2_letFirstTry_20 b_p.1 rfl ?_
  refine rx_icmp_ge C dX2_letFirstTry_23 30 (by decide) (fun c3 => ?_) (fun c3 => ?_)
  · rw [if_pos c3] at hF
    refine rx_iconst C dX2_letFirstTry_30 (0 : Int32) (by decide) ?_
    refine rx_istore_n C dX2_letFirstTry_31 (by decide) [(3, .int ((0 : Int32))), (2, .int y1), (0, .ref q), (1, .ref (q + 10))] rfl ?_
    refine rx_aload_n C dX2_letFirstTry_32 3 rfl ?_
    refine rx_iconst C dX2_letFirstTry_33 (0 : Int32) (by decide) ?_
    replace hF := rx_biE hF; obtain ⟨y4, e_y4, hF⟩ := hF
    refine rx_ci (rx_rVN C (w_X3_offerAt e_y4 b_w) Y_X3_offerAt V_X3_offerAt m_X2_129 (Or.inl ⟨_, _, _, _, b_w.1, rfl⟩) ⟨⟨rfl, rfl⟩, ⟨(Nat.le_of_ble_eq_true rfl), (Nat.le_of_ble_eq_true rfl)⟩, ⟨(Nat.le_of_ble_eq_true rfl), (Nat.le_of_ble_eq_true rfl)⟩⟩ rfl rfl (Nat.le_of_ble_eq_true rfl) dX2_letFirstTry_34) (fun r hh n1 hpp => ?_)
    obtain ⟨rfl, hu⟩ := hpp
    cases hu
    refine rx_aload_n C dX2_letFirstTry_37 2 rfl ?_
    refine rx_getf C f_X2_49 dX2_letFirstTry_38 b_p.1 rfl ?_
    refine rx_iload_n C dX2_letFirstTry_41 0 rfl ?_
    replace hF := rx_biE hF; obtain ⟨y5, e_y5, hF⟩ := hF
    refine rx_ci (rx_rVN C (w_X5_tollFor e_y5 b_st) Y_X5_tollFor V_X5_tollFor m_X2_111 (Or.inl ⟨_, _, _, _, b_st.1, rfl⟩) ⟨⟨rfl, rfl⟩, ⟨(Nat.le_of_ble_eq_true rfl), (Nat.le_of_ble_eq_true rfl)⟩, ⟨(Nat.le_of_ble_eq_true rfl), (Nat.le_of_ble_eq_true rfl)⟩⟩ rfl rfl (Nat.le_of_ble_eq_true rfl) dX2_letFirstTry_42) (fun r hh n1 hpp => ?_)
    obtain ⟨rfl, hu⟩ := hpp
    cases hu
    refine rx_iadd C dX2_letFirstTry_45 ?_
    replace hF := rx_leE hF; obtain ⟨v6, e_v6, hF⟩ := hF
    rw [e_v6]
    refine rx_istore C dX2_letFirstTry_46 (by decide) [(4, .int v6), (3, .int ((0 : Int32))), (2, .int y1), (0, .ref q), (1, .ref (q + 10))] rfl ?_
    refine rx_aload_n C dX2_letFirstTry_48 4 rfl ?_
    refine rx_iconst C dX2_letFirstTry_49 (0 : Int32) (by decide) ?_
    replace hF := rx_biE hF; obtain ⟨y7, e_y7, hF⟩ := hF
    refine rx_cv (rx_rVN C (w_X3_removeAt e_y7 b_w) Y_X3_removeAt V_X3_removeAt m_X2_156 (Or.inl ⟨_, _, _, _, b_w.1, rfl⟩) ⟨⟨rfl, rfl⟩, ⟨(Nat.le_of_ble_eq_true rfl), (Nat.le_of_ble_eq_true rfl)⟩, ⟨(Nat.le_of_ble_eq_true rfl), (Nat.le_of_ble_eq_true rfl)⟩⟩ rfl rfl (Nat.le_of_ble_eq_true rfl) dX2_letFirstTry_50) (fun hh n1 hpp => ?_)
    obtain ⟨hn, c_w, ff⟩ := hpp
    replace hn : n = n1 := Eq.symm hn
    subst hn
    replace b_w : bQ k (q + 10) y7 hh := c_w
    clear c_w
    replace ff : rx_fr [(q + 10, 3)] _ hh := ff
    replace b_p := b_p.keep ff ⟨s_p_w, trivial⟩
    replace b_st := b_st.keep ff ⟨s_st_w, trivial⟩
    replace fr := rx_frt fr ff (fun a ha => ⟨ha.2.1, trivial⟩)
    refine rx_aload_n C dX2_letFirstTry_53 3 rfl ?_
    refine rx_getf C f_X2_18 dX2_letFirstTry_54 b_p.1 rfl ?_
    refine rx_iload_n C dX2_letFirstTry_57 2 rfl ?_
    refine rx_ci (rx_rSN C (w_at b_p.2.2.2.1 (by decide)) Y_X8_at S_X8_at m_X2_91 ⟨⟨rfl, rfl⟩, ⟨(Nat.le_of_ble_eq_true rfl), (Nat.le_of_ble_eq_true rfl)⟩, ⟨(Nat.le_of_ble_eq_true rfl), (Nat.le_of_ble_eq_true rfl)⟩⟩ rfl rfl (Nat.le_of_ble_eq_true rfl) dX2_letFirstTry_58) (fun r hh n1 hpp => ?_)
    obtain ⟨rfl, hu⟩ := hpp
    cases hu
    refine rx_iload C dX2_letFirstTry_61 0 rfl ?_
    refine rx_icmp_ge C dX2_letFirstTry_63 68 (by decide) (fun c8 => ?_) (fun c8 => ?_)
    · rw [if_pos c8] at hF
      refine rx_aload_n C dX2_letFirstTry_68 3 rfl ?_
      refine rx_getf C f_X2_18 dX2_letFirstTry_69 b_p.1 rfl ?_
      refine rx_iload_n C dX2_letFirstTry_72 2 rfl ?_
      refine rx_iload C dX2_letFirstTry_73 0 rfl ?_
      refine rx_ineg C dX2_letFirstTry_75 ?_
      replace hF := rx_leE hF; obtain ⟨o_p_9, e_o_p_9, hF⟩ := hF
      refine rx_cv (rx_rSN C (w_add b_p.2.2.2.1 (by decide)) Y_X8_add S_X8_add m_X2_160 ⟨⟨rfl, rfl⟩, ⟨(Nat.le_of_ble_eq_true rfl), (Nat.le_of_ble_eq_true rfl)⟩, ⟨(Nat.le_of_ble_eq_true rfl), (Nat.le_of_ble_eq_true rfl)⟩⟩ rfl rfl (Nat.le_of_ble_eq_true rfl) dX2_letFirstTry_76) (fun hh n1 hpp => ?_)
      obtain ⟨c_p, ff, hn⟩ := b_p.wr6 e_o_p_9 hpp
      replace hn := Eq.symm hn
      subst hn
      replace b_p := c_p
      replace b_w := b_w.keep ff ⟨s_w_p, trivial⟩
      replace b_st := b_st.keep ff ⟨s_st_p, trivial⟩
      replace fr := rx_frt fr ff (fun a ha => ⟨ha.1, trivial⟩)
      refine rx_aload_n C dX2_letFirstTry_79 3 rfl ?_
      refine rx_dup C dX2_letFirstTry_80 rfl ?_
      refine rx_getf C f_X2_63 dX2_letFirstTry_81 b_p.1 rfl ?_
      refine rx_iload C dX2_letFirstTry_84 0 rfl ?_
      refine rx_iadd C dX2_letFirstTry_86 ?_
      replace hF := rx_leE hF; obtain ⟨o_p_10, e_o_p_10, hF⟩ := hF
      refine rx_pP3 C f_X2_63 dX2_letFirstTry_87 b_p e_o_p_10 (fun hh c_p ff => ?_)
      replace b_p := c_p
      replace b_w := b_w.keep ff ⟨s_w_p, trivial⟩
      replace b_st := b_st.keep ff ⟨s_st_p, trivial⟩
      replace fr := rx_frt fr ff (fun a ha => ⟨ha.1, trivial⟩)
      refine rx_aload_n C dX2_letFirstTry_90 3 rfl ?_
      refine rx_getf C f_X2_15 dX2_letFirstTry_91 b_p.1 rfl ?_
      refine rx_iload_n C dX2_letFirstTry_94 2 rfl ?_
      refine rx_aload_n C dX2_letFirstTry_95 3 rfl ?_
      replace hF := rx_biE hF; obtain ⟨y11, e_y11, hF⟩ := hF
      refine rx_ci (rx_rV C (w_X2_departureBank e_y11 b_p) Y_X2_departureBank V_X2_departureBank m_X2_136 (Or.inl ⟨_, _, _, _, b_p.1, rfl⟩) ⟨⟨rfl, rfl⟩, ⟨(Nat.le_of_ble_eq_true rfl), (Nat.le_of_ble_eq_true rfl)⟩, ⟨(Nat.le_of_ble_eq_true rfl), (Nat.le_of_ble_eq_true rfl)⟩⟩ rfl rfl (Nat.le_of_ble_eq_true rfl) dX2_letFirstTry_96) (fun r hh n1 hpp => ?_)
      obtain ⟨rfl, hu⟩ := hpp
      cases hu
      refine rx_if_ne C dX2_letFirstTry_99 106 (by decide) (fun c12 => ?_) (fun c12 => ?_)
      · rw [if_neg c12] at hF
        refine rx_iconst C dX2_letFirstTry_106 (0 : Int32) (by decide) ?_
        replace hF := rx_leE hF; obtain ⟨o_p_13, e_o_p_13, hF⟩ := hF
        refine rx_cv (rx_rSN C (w_put b_p.2.2.1 (by decide)) Y_X8_put S_X8_put m_X2_66 ⟨⟨rfl, rfl⟩, ⟨(Nat.le_of_ble_eq_true rfl), (Nat.le_of_ble_eq_true rfl)⟩, ⟨(Nat.le_of_ble_eq_true rfl), (Nat.le_of_ble_eq_true rfl)⟩⟩ rfl rfl (Nat.le_of_ble_eq_true rfl) dX2_letFirstTry_107) (fun hh n1 hpp => ?_)
        obtain ⟨c_p, ff, hn⟩ := b_p.wr5 e_o_p_13 hpp
        replace hn := Eq.symm hn
        subst hn
        replace b_p := c_p
        replace b_w := b_w.keep ff ⟨s_w_p, trivial⟩
        replace b_st := b_st.keep ff ⟨s_st_p, trivial⟩
        replace fr := rx_frt fr ff (fun a ha => ⟨ha.1, trivial⟩)
        refine rx_aload_n C dX2_letFirstTry_110 3 rfl ?_
        refine rx_getf C f_X2_27 dX2_letFirstTry_111 b_p.1 rfl ?_
        refine rx_iload_n C dX2_letFirstTry_114 2 rfl ?_
        refine rx_iconst C dX2_letFirstTry_115 (1 : Int32) (by decide) ?_
        replace hF := rx_leE hF; obtain ⟨o_p_14, e_o_p_14, hF⟩ := hF
        refine rx_cv (rx_rSN C (w_add b_p.2.2.2.2.2.2.1 (by decide)) Y_X8_add S_X8_add m_X2_160 ⟨⟨rfl, rfl⟩, ⟨(Nat.le_of_ble_eq_true rfl), (Nat.le_of_ble_eq_true rfl)⟩, ⟨(Nat.le_of_ble_eq_true rfl), (Nat.le_of_ble_eq_true rfl)⟩⟩ rfl rfl (Nat.le_of_ble_eq_true rfl) dX2_letFirstTry_116) (fun hh n1 hpp => ?_)
        obtain ⟨c_p, ff, hn⟩ := b_p.wr9 e_o_p_14 hpp
        replace hn := Eq.symm hn
        subst hn
        replace b_p := c_p
        replace b_w := b_w.keep ff ⟨s_w_p, trivial⟩
        replace b_st := b_st.keep ff ⟨s_st_p, trivial⟩
        replace fr := rx_frt fr ff (fun a ha => ⟨ha.1, trivial⟩)
        refine rx_aload_n C dX2_letFirstTry_119 3 rfl ?_
        refine rx_iload_n C dX2_letFirstTry_120 2 rfl ?_
        replace hF := rx_biE hF; obtain ⟨y15, e_y15, hF⟩ := hF
        refine rx_cv (rx_rV C (w_X2_countRoyalCoinsOf e_y15 b_p b_st (by omega)) Y_X2_countRoyalCoinsOf V_X2_countRoyalCoinsOf m_X2_163 (Or.inl ⟨_, _, _, _, b_p.1, rfl⟩) ⟨⟨rfl, rfl⟩, ⟨(Nat.le_of_ble_eq_true rfl), (Nat.le_of_ble_eq_true rfl)⟩, ⟨(Nat.le_of_ble_eq_true rfl), (Nat.le_of_ble_eq_true rfl)⟩⟩ rfl rfl (Nat.le_of_ble_eq_true rfl) dX2_letFirstTry_121) (fun hh n1 hpp => ?_)
        obtain ⟨hn, c_p, ff⟩ := hpp
        replace hn : n = n1 := Eq.symm hn
        subst hn
        replace b_p : bP k q g y15 hh := c_p
        clear c_p
        replace ff : rx_fr [(q, 10)] _ hh := ff
        replace b_w := b_w.keep ff ⟨s_w_p, trivial⟩
        replace b_st := b_st.keep ff ⟨s_st_p, trivial⟩
        replace fr := rx_frt fr ff (fun a ha => ⟨ha.1, trivial⟩)
        refine rx_aload_n C dX2_letFirstTry_124 3 rfl ?_
        refine rx_iload_n C dX2_letFirstTry_125 1 rfl ?_
        refine rx_aload_n C dX2_letFirstTry_126 3 rfl ?_
        refine rx_getf C f_X2_49 dX2_letFirstTry_127 b_p.1 rfl ?_
        refine rx_iload_n C dX2_letFirstTry_130 2 rfl ?_
        replace hF := rx_biE hF; obtain ⟨y16, e_y16, hF⟩ := hF
        refine rx_ci (rx_rVN C (w_X5_hasKing e_y16 b_st) Y_X5_hasKing V_X5_hasKing m_X2_80 (Or.inl ⟨_, _, _, _, b_st.1, rfl⟩) ⟨⟨rfl, rfl⟩, ⟨(Nat.le_of_ble_eq_true rfl), (Nat.le_of_ble_eq_true rfl)⟩, ⟨(Nat.le_of_ble_eq_true rfl), (Nat.le_of_ble_eq_true rfl)⟩⟩ rfl rfl (Nat.le_of_ble_eq_true rfl) dX2_letFirstTry_131) (fun r hh n1 hpp => ?_)
        obtain ⟨rfl, bo_y16, hu⟩ := hpp
        cases hu
        replace hF := rx_biE hF; obtain ⟨y17, e_y17, hF⟩ := hF
        refine rx_cv (rx_rV C (w_X2_learn e_y17 b_p b_st (by omega)) Y_X2_learn V_X2_learn m_X2_166 (Or.inl ⟨_, _, _, _, b_p.1, rfl⟩) ⟨⟨rfl, rfl⟩, ⟨(Nat.le_of_ble_eq_true rfl), (Nat.le_of_ble_eq_true rfl)⟩, ⟨(Nat.le_of_ble_eq_true rfl), (Nat.le_of_ble_eq_true rfl)⟩⟩ rfl rfl (Nat.le_of_ble_eq_true rfl) dX2_letFirstTry_134) (fun hh n1 hpp => ?_)
        obtain ⟨hn, c_p, ff⟩ := hpp
        replace hn : n = n1 := Eq.symm hn
        subst hn
        replace b_p : bP k q g y17 hh := c_p
        clear c_p
        replace ff : rx_fr [(q, 10)] _ hh := ff
        replace b_w := b_w.keep ff ⟨s_w_p, trivial⟩
        replace b_st := b_st.keep ff ⟨s_st_p, trivial⟩
        replace fr := rx_frt fr ff (fun a ha => ⟨ha.1, trivial⟩)
        refine rx_iconst C dX2_letFirstTry_137 (1 : Int32) (by decide) ?_
        obtain rfl := Option.some.inj hF
        exact rx_iret C dX2_letFirstTry_138 (Nat.le_refl _) (Nat.le_refl _) ⟨rfl, rfl, b_p, b_w, fr⟩
      · rw [if_pos c12] at hF
        refine rx_iconst C dX2_letFirstTry_102 (1 : Int32) (by decide) ?_
        refine rx_goto C dX2_letFirstTry_103 107 (by decide) ?_
        replace hF := rx_leE hF; obtain ⟨o_p_18, e_o_p_18, hF⟩ := hF
        refine rx_cv (rx_rSN C (w_put b_p.2.2.1 (by decide)) Y_X8_put S_X8_put m_X2_66 ⟨⟨rfl, rfl⟩, ⟨(Nat.le_of_ble_eq_true rfl), (Nat.le_of_ble_eq_true rfl)⟩, ⟨(Nat.le_of_ble_eq_true rfl), (Nat.le_of_ble_eq_true rfl)⟩⟩ rfl rfl (Nat.le_of_ble_eq_true rfl) dX2_letFirstTry_107) (fun hh n1 hpp => ?_)
        obtain ⟨c_p, ff, hn⟩ := b_p.wr5 e_o_p_18 hpp
        replace hn := Eq.symm hn
        subst hn
        replace b_p := c_p
        replace b_w := b_w.keep ff ⟨s_w_p, trivial⟩
        replace b_st := b_st.keep ff ⟨s_st_p, trivial⟩
        replace fr := rx_frt fr ff (fun a ha => ⟨ha.1, trivial⟩)
        refine rx_aload_n C dX2_letFirstTry_110 3 rfl ?_
        refine rx_getf C f_X2_27 dX2_letFirstTry_111 b_p.1 rfl ?_
        refine rx_iload_n C dX2_letFirstTry_114 2 rfl ?_
        refine rx_iconst C dX2_letFirstTry_115 (1 : Int32) (by decide) ?_
        replace hF := rx_leE hF; obtain ⟨o_p_19, e_o_p_19, hF⟩ := hF
        refine rx_cv (rx_rSN C (w_add b_p.2.2.2.2.2.2.1 (by decide)) Y_X8_add S_X8_add m_X2_160 ⟨⟨rfl, rfl⟩, ⟨(Nat.le_of_ble_eq_true rfl), (Nat.le_of_ble_eq_true rfl)⟩, ⟨(Nat.le_of_ble_eq_true rfl), (Nat.le_of_ble_eq_true rfl)⟩⟩ rfl rfl (Nat.le_of_ble_eq_true rfl) dX2_letFirstTry_116) (fun hh n1 hpp => ?_)
        obtain ⟨c_p, ff, hn⟩ := b_p.wr9 e_o_p_19 hpp
        replace hn := Eq.symm hn
        subst hn
        replace b_p := c_p
        replace b_w := b_w.keep ff ⟨s_w_p, trivial⟩
        replace b_st := b_st.keep ff ⟨s_st_p, trivial⟩
        replace fr := rx_frt fr ff (fun a ha => ⟨ha.1, trivial⟩)
        refine rx_aload_n C dX2_letFirstTry_119 3 rfl ?_
        refine rx_iload_n C dX2_letFirstTry_120 2 rfl ?_
        replace hF := rx_biE hF; obtain ⟨y20, e_y20, hF⟩ := hF
        refine rx_cv (rx_rV C (w_X2_countRoyalCoinsOf e_y20 b_p b_st (by omega)) Y_X2_countRoyalCoinsOf V_X2_countRoyalCoinsOf m_X2_163 (Or.inl ⟨_, _, _, _, b_p.1, rfl⟩) ⟨⟨rfl, rfl⟩, ⟨(Nat.le_of_ble_eq_true rfl), (Nat.le_of_ble_eq_true rfl)⟩, ⟨(Nat.le_of_ble_eq_true rfl), (Nat.le_of_ble_eq_true rfl)⟩⟩ rfl rfl (Nat.le_of_ble_eq_true rfl) dX2_letFirstTry_121) (fun hh n1 hpp => ?_)
        obtain ⟨hn, c_p, ff⟩ := hpp
        replace hn : n = n1 := Eq.symm hn
        subst hn
        replace b_p : bP k q g y20 hh := c_p
        clear c_p
        replace ff : rx_fr [(q, 10)] _ hh := ff
        replace b_w := b_w.keep ff ⟨s_w_p, trivial⟩
        replace b_st := b_st.keep ff ⟨s_st_p, trivial⟩
        replace fr := rx_frt fr ff (fun a ha => ⟨ha.1, trivial⟩)
        refine rx_aload_n C dX2_letFirstTry_124 3 rfl ?_
        refine rx_iload_n C dX2_letFirstTry_125 1 rfl ?_
        refine rx_aload_n C dX2_letFirstTry_126 3 rfl ?_
        refine rx_getf C f_X2_49 dX2_letFirstTry_127 b_p.1 rfl ?_
        refine rx_iload_n C dX2_letFirstTry_130 2 rfl ?_
        replace hF := rx_biE hF; obtain ⟨y21, e_y21, hF⟩ := hF
        refine rx_ci (rx_rVN C (w_X5_hasKing e_y21 b_st) Y_X5_hasKing V_X5_hasKing m_X2_80 (Or.inl ⟨_, _, _, _, b_st.1, rfl⟩) ⟨⟨rfl, rfl⟩, ⟨(Nat.le_of_ble_eq_true rfl), (Nat.le_of_ble_eq_true rfl)⟩, ⟨(Nat.le_of_ble_eq_true rfl), (Nat.le_of_ble_eq_true rfl)⟩⟩ rfl rfl (Nat.le_of_ble_eq_true rfl) dX2_letFirstTry_131) (fun r hh n1 hpp => ?_)
        obtain ⟨rfl, bo_y21, hu⟩ := hpp
        cases hu
        replace hF := rx_biE hF; obtain ⟨y22, e_y22, hF⟩ := hF
        refine rx_cv (rx_rV C (w_X2_learn e_y22 b_p b_st (by omega)) Y_X2_learn V_X2_learn m_X2_166 (Or.inl ⟨_, _, _, _, b_p.1, rfl⟩) ⟨⟨rfl, rfl⟩, ⟨(Nat.le_of_ble_eq_true rfl), (Nat.le_of_ble_eq_true rfl)⟩, ⟨(Nat.le_of_ble_eq_true rfl), (Nat.le_of_ble_eq_true rfl)⟩⟩ rfl rfl (Nat.le_of_ble_eq_true rfl) dX2_letFirstTry_134) (fun hh n1 hpp => ?_)
        obtain ⟨hn, c_p, ff⟩ := hpp
        replace hn : n = n1 := Eq.symm hn
        subst hn
        replace b_p : bP k q g y22 hh := c_p
        clear c_p
        replace ff : rx_fr [(q, 10)] _ hh := ff
        replace b_w := b_w.keep ff ⟨s_w_p, trivial⟩
        replace b_st := b_st.keep ff ⟨s_st_p, trivial⟩
        replace fr := rx_frt fr ff (fun a ha => ⟨ha.1, trivial⟩)
        refine rx_iconst C dX2_letFirstTry_137 (1 : Int32) (by decide) ?_
        obtain rfl := Option.some.inj hF
        exact rx_iret C dX2_letFirstTry_138 (Nat.le_refl _) (Nat.le_refl _) ⟨rfl, rfl, b_p, b_w, fr⟩
    · rw [if_neg c8] at hF
      refine rx_iconst C dX2_letFirstTry_66 (0 : Int32) (by decide) ?_
      obtain rfl := Option.some.inj hF
      exact rx_iret C dX2_letFirstTry_67 (Nat.le_refl _) (Nat.le_refl _) ⟨rfl, rfl, b_p, b_w, fr⟩
  · rw [if_neg c3] at hF
    refine rx_iconst C dX2_letFirstTry_26 (1 : Int32) (by decide) ?_
    refine rx_goto C dX2_letFirstTry_27 31 (by decide) ?_
    refine rx_istore_n C dX2_letFirstTry_31 (by decide) [(3, .int ((1 : Int32))), (2, .int y1), (0, .ref q), (1, .ref (q + 10))] rfl ?_
    refine rx_aload_n C dX2_letFirstTry_32 3 rfl ?_
    refine rx_iconst C dX2_letFirstTry_33 (0 : Int32) (by decide) ?_
    replace hF := rx_biE hF; obtain ⟨y23, e_y23, hF⟩ := hF
    refine rx_ci (rx_rVN C (w_X3_offerAt e_y23 b_w) Y_X3_offerAt V_X3_offerAt m_X2_129 (Or.inl ⟨_, _, _, _, b_w.1, rfl⟩) ⟨⟨rfl, rfl⟩, ⟨(Nat.le_of_ble_eq_true rfl), (Nat.le_of_ble_eq_true rfl)⟩, ⟨(Nat.le_of_ble_eq_true rfl), (Nat.le_of_ble_eq_true rfl)⟩⟩ rfl rfl (Nat.le_of_ble_eq_true rfl) dX2_letFirstTry_34) (fun r hh n1 hpp => ?_)
    obtain ⟨rfl, hu⟩ := hpp
    cases hu
    refine rx_aload_n C dX2_letFirstTry_37 2 rfl ?_
    refine rx_getf C f_X2_49 dX2_letFirstTry_38 b_p.1 rfl ?_
    refine rx_iload_n C dX2_letFirstTry_41 0 rfl ?_
    replace hF := rx_biE hF; obtain ⟨y24, e_y24, hF⟩ := hF
    refine rx_ci (rx_rVN C (w_X5_tollFor e_y24 b_st) Y_X5_tollFor V_X5_tollFor m_X2_111 (Or.inl ⟨_, _, _, _, b_st.1, rfl⟩) ⟨⟨rfl, rfl⟩, ⟨(Nat.le_of_ble_eq_true rfl), (Nat.le_of_ble_eq_true rfl)⟩, ⟨(Nat.le_of_ble_eq_true rfl), (Nat.le_of_ble_eq_true rfl)⟩⟩ rfl rfl (Nat.le_of_ble_eq_true rfl) dX2_letFirstTry_42) (fun r hh n1 hpp => ?_)
    obtain ⟨rfl, hu⟩ := hpp
    cases hu
    refine rx_iadd C dX2_letFirstTry_45 ?_
    replace hF := rx_leE hF; obtain ⟨v25, e_v25, hF⟩ := hF
    rw [e_v25]
    refine rx_istore C dX2_letFirstTry_46 (by decide) [(4, .int v25), (3, .int ((1 : Int32))), (2, .int y1), (0, .ref q), (1, .ref (q + 10))] rfl ?_
    refine rx_aload_n C dX2_letFirstTry_48 4 rfl ?_
    refine rx_iconst C dX2_letFirstTry_49 (0 : Int32) (by decide) ?_
    replace hF := rx_biE hF; obtain ⟨y26, e_y26, hF⟩ := hF
    refine rx_cv (rx_rVN C (w_X3_removeAt e_y26 b_w) Y_X3_removeAt V_X3_removeAt m_X2_156 (Or.inl ⟨_, _, _, _, b_w.1, rfl⟩) ⟨⟨rfl, rfl⟩, ⟨(Nat.le_of_ble_eq_true rfl), (Nat.le_of_ble_eq_true rfl)⟩, ⟨(Nat.le_of_ble_eq_true rfl), (Nat.le_of_ble_eq_true rfl)⟩⟩ rfl rfl (Nat.le_of_ble_eq_true rfl) dX2_letFirstTry_50) (fun hh n1 hpp => ?_)
    obtain ⟨hn, c_w, ff⟩ := hpp
    replace hn : n = n1 := Eq.symm hn
    subst hn
    replace b_w : bQ k (q + 10) y26 hh := c_w
    clear c_w
    replace ff : rx_fr [(q + 10, 3)] _ hh := ff
    replace b_p := b_p.keep ff ⟨s_p_w, trivial⟩
    replace b_st := b_st.keep ff ⟨s_st_w, trivial⟩
    replace fr := rx_frt fr ff (fun a ha => ⟨ha.2.1, trivial⟩)
    refine rx_aload_n C dX2_letFirstTry_53 3 rfl ?_
    refine rx_getf C f_X2_18 dX2_letFirstTry_54 b_p.1 rfl ?_
    refine rx_iload_n C dX2_letFirstTry_57 2 rfl ?_
    refine rx_ci (rx_rSN C (w_at b_p.2.2.2.1 (by decide)) Y_X8_at S_X8_at m_X2_91 ⟨⟨rfl, rfl⟩, ⟨(Nat.le_of_ble_eq_true rfl), (Nat.le_of_ble_eq_true rfl)⟩, ⟨(Nat.le_of_ble_eq_true rfl), (Nat.le_of_ble_eq_true rfl)⟩⟩ rfl rfl (Nat.le_of_ble_eq_true rfl) dX2_letFirstTry_58) (fun r hh n1 hpp => ?_)
    obtain ⟨rfl, hu⟩ := hpp
    cases hu
    refine rx_iload C dX2_letFirstTry_61 0 rfl ?_
    refine rx_icmp_ge C dX2_letFirstTry_63 68 (by decide) (fun c27 => ?_) (fun c27 => ?_)
    · rw [if_pos c27] at hF
      refine rx_aload_n C dX2_letFirstTry_68 3 rfl ?_
      refine rx_getf C f_X2_18 dX2_letFirstTry_69 b_p.1 rfl ?_
      refine rx_iload_n C dX2_letFirstTry_72 2 rfl ?_
      refine rx_iload C dX2_letFirstTry_73 0 rfl ?_
      refine rx_ineg C dX2_letFirstTry_75 ?_
      replace hF := rx_leE hF; obtain ⟨o_p_28, e_o_p_28, hF⟩ := hF
      refine rx_cv (rx_rSN C (w_add b_p.2.2.2.1 (by decide)) Y_X8_add S_X8_add m_X2_160 ⟨⟨rfl, rfl⟩, ⟨(Nat.le_of_ble_eq_true rfl), (Nat.le_of_ble_eq_true rfl)⟩, ⟨(Nat.le_of_ble_eq_true rfl), (Nat.le_of_ble_eq_true rfl)⟩⟩ rfl rfl (Nat.le_of_ble_eq_true rfl) dX2_letFirstTry_76) (fun hh n1 hpp => ?_)
      obtain ⟨c_p, ff, hn⟩ := b_p.wr6 e_o_p_28 hpp
      replace hn := Eq.symm hn
      subst hn
      replace b_p := c_p
      replace b_w := b_w.keep ff ⟨s_w_p, trivial⟩
      replace b_st := b_st.keep ff ⟨s_st_p, trivial⟩
      replace fr := rx_frt fr ff (fun a ha => ⟨ha.1, trivial⟩)
      refine rx_aload_n C dX2_letFirstTry_79 3 rfl ?_
      refine rx_dup C dX2_letFirstTry_80 rfl ?_
      refine rx_getf C f_X2_63 dX2_letFirstTry_81 b_p.1 rfl ?_
      refine rx_iload C dX2_letFirstTry_84 0 rfl ?_
      refine rx_iadd C dX2_letFirstTry_86 ?_
      replace hF := rx_leE hF; obtain ⟨o_p_29, e_o_p_29, hF⟩ := hF
      refine rx_pP3 C f_X2_63 dX2_letFirstTry_87 b_p e_o_p_29 (fun hh c_p ff => ?_)
      replace b_p := c_p
      replace b_w := b_w.keep ff ⟨s_w_p, trivial⟩
      replace b_st := b_st.keep ff ⟨s_st_p, trivial⟩
      replace fr := rx_frt fr ff (fun a ha => ⟨ha.1, trivial⟩)
      refine rx_aload_n C dX2_letFirstTry_90 3 rfl ?_
      refine rx_getf C f_X2_15 dX2_letFirstTry_91 b_p.1 rfl ?_
      refine rx_iload_n C dX2_letFirstTry_94 2 rfl ?_
      refine rx_aload_n C dX2_letFirstTry_95 3 rfl ?_
      replace hF := rx_biE hF; obtain ⟨y30, e_y30, hF⟩ := hF
      refine rx_ci (rx_rV C (w_X2_departureBank e_y30 b_p) Y_X2_departureBank V_X2_departureBank m_X2_136 (Or.inl ⟨_, _, _, _, b_p.1, rfl⟩) ⟨⟨rfl, rfl⟩, ⟨(Nat.le_of_ble_eq_true rfl), (Nat.le_of_ble_eq_true rfl)⟩, ⟨(Nat.le_of_ble_eq_true rfl), (Nat.le_of_ble_eq_true rfl)⟩⟩ rfl rfl (Nat.le_of_ble_eq_true rfl) dX2_letFirstTry_96) (fun r hh n1 hpp => ?_)
      obtain ⟨rfl, hu⟩ := hpp
      cases hu
      refine rx_if_ne C dX2_letFirstTry_99 106 (by decide) (fun c31 => ?_) (fun c31 => ?_)
      · rw [if_neg c31] at hF
        refine rx_iconst C dX2_letFirstTry_106 (0 : Int32) (by decide) ?_
        replace hF := rx_leE hF; obtain ⟨o_p_32, e_o_p_32, hF⟩ := hF
        refine rx_cv (rx_rSN C (w_put b_p.2.2.1 (by decide)) Y_X8_put S_X8_put m_X2_66 ⟨⟨rfl, rfl⟩, ⟨(Nat.le_of_ble_eq_true rfl), (Nat.le_of_ble_eq_true rfl)⟩, ⟨(Nat.le_of_ble_eq_true rfl), (Nat.le_of_ble_eq_true rfl)⟩⟩ rfl rfl (Nat.le_of_ble_eq_true rfl) dX2_letFirstTry_107) (fun hh n1 hpp => ?_)
        obtain ⟨c_p, ff, hn⟩ := b_p.wr5 e_o_p_32 hpp
        replace hn := Eq.symm hn
        subst hn
        replace b_p := c_p
        replace b_w := b_w.keep ff ⟨s_w_p, trivial⟩
        replace b_st := b_st.keep ff ⟨s_st_p, trivial⟩
        replace fr := rx_frt fr ff (fun a ha => ⟨ha.1, trivial⟩)
        refine rx_aload_n C dX2_letFirstTry_110 3 rfl ?_
        refine rx_getf C f_X2_27 dX2_letFirstTry_111 b_p.1 rfl ?_
        refine rx_iload_n C dX2_letFirstTry_114 2 rfl ?_
        refine rx_iconst C dX2_letFirstTry_115 (1 : Int32) (by decide) ?_
        replace hF := rx_leE hF; obtain ⟨o_p_33, e_o_p_33, hF⟩ := hF
        refine rx_cv (rx_rSN C (w_add b_p.2.2.2.2.2.2.1 (by decide)) Y_X8_add S_X8_add m_X2_160 ⟨⟨rfl, rfl⟩, ⟨(Nat.le_of_ble_eq_true rfl), (Nat.le_of_ble_eq_true rfl)⟩, ⟨(Nat.le_of_ble_eq_true rfl), (Nat.le_of_ble_eq_true rfl)⟩⟩ rfl rfl (Nat.le_of_ble_eq_true rfl) dX2_letFirstTry_116) (fun hh n1 hpp => ?_)
        obtain ⟨c_p, ff, hn⟩ := b_p.wr9 e_o_p_33 hpp
        replace hn := Eq.symm hn
        subst hn
        replace b_p := c_p
        replace b_w := b_w.keep ff ⟨s_w_p, trivial⟩
        replace b_st := b_st.keep ff ⟨s_st_p, trivial⟩
        replace fr := rx_frt fr ff (fun a ha => ⟨ha.1, trivial⟩)
        refine rx_aload_n C dX2_letFirstTry_119 3 rfl ?_
        refine rx_iload_n C dX2_letFirstTry_120 2 rfl ?_
        replace hF := rx_biE hF; obtain ⟨y34, e_y34, hF⟩ := hF
        refine rx_cv (rx_rV C (w_X2_countRoyalCoinsOf e_y34 b_p b_st (by omega)) Y_X2_countRoyalCoinsOf V_X2_countRoyalCoinsOf m_X2_163 (Or.inl ⟨_, _, _, _, b_p.1, rfl⟩) ⟨⟨rfl, rfl⟩, ⟨(Nat.le_of_ble_eq_true rfl), (Nat.le_of_ble_eq_true rfl)⟩, ⟨(Nat.le_of_ble_eq_true rfl), (Nat.le_of_ble_eq_true rfl)⟩⟩ rfl rfl (Nat.le_of_ble_eq_true rfl) dX2_letFirstTry_121) (fun hh n1 hpp => ?_)
        obtain ⟨hn, c_p, ff⟩ := hpp
        replace hn : n = n1 := Eq.symm hn
        subst hn
        replace b_p : bP k q g y34 hh := c_p
        clear c_p
        replace ff : rx_fr [(q, 10)] _ hh := ff
        replace b_w := b_w.keep ff ⟨s_w_p, trivial⟩
        replace b_st := b_st.keep ff ⟨s_st_p, trivial⟩
        replace fr := rx_frt fr ff (fun a ha => ⟨ha.1, trivial⟩)
        refine rx_aload_n C dX2_letFirstTry_124 3 rfl ?_
        refine rx_iload_n C dX2_letFirstTry_125 1 rfl ?_
        refine rx_aload_n C dX2_letFirstTry_126 3 rfl ?_
        refine rx_getf C f_X2_49 dX2_letFirstTry_127 b_p.1 rfl ?_
        refine rx_iload_n C dX2_letFirstTry_130 2 rfl ?_
        replace hF := rx_biE hF; obtain ⟨y35, e_y35, hF⟩ := hF
        refine rx_ci (rx_rVN C (w_X5_hasKing e_y35 b_st) Y_X5_hasKing V_X5_hasKing m_X2_80 (Or.inl ⟨_, _, _, _, b_st.1, rfl⟩) ⟨⟨rfl, rfl⟩, ⟨(Nat.le_of_ble_eq_true rfl), (Nat.le_of_ble_eq_true rfl)⟩, ⟨(Nat.le_of_ble_eq_true rfl), (Nat.le_of_ble_eq_true rfl)⟩⟩ rfl rfl (Nat.le_of_ble_eq_true rfl) dX2_letFirstTry_131) (fun r hh n1 hpp => ?_)
        obtain ⟨rfl, bo_y35, hu⟩ := hpp
        cases hu
        replace hF := rx_biE hF; obtain ⟨y36, e_y36, hF⟩ := hF
        refine rx_cv (rx_rV C (w_X2_learn e_y36 b_p b_st (by omega)) Y_X2_learn V_X2_learn m_X2_166 (Or.inl ⟨_, _, _, _, b_p.1, rfl⟩) ⟨⟨rfl, rfl⟩, ⟨(Nat.le_of_ble_eq_true rfl), (Nat.le_of_ble_eq_true rfl)⟩, ⟨(Nat.le_of_ble_eq_true rfl), (Nat.le_of_ble_eq_true rfl)⟩⟩ rfl rfl (Nat.le_of_ble_eq_true rfl) dX2_letFirstTry_134) (fun hh n1 hpp => ?_)
        obtain ⟨hn, c_p, ff⟩ := hpp
        replace hn : n = n1 := Eq.symm hn
        subst hn
        replace b_p : bP k q g y36 hh := c_p
        clear c_p
        replace ff : rx_fr [(q, 10)] _ hh := ff
        replace b_w := b_w.keep ff ⟨s_w_p, trivial⟩
        replace b_st := b_st.keep ff ⟨s_st_p, trivial⟩
        replace fr := rx_frt fr ff (fun a ha => ⟨ha.1, trivial⟩)
        refine rx_iconst C dX2_letFirstTry_137 (1 : Int32) (by decide) ?_
        obtain rfl := Option.some.inj hF
        exact rx_iret C dX2_letFirstTry_138 (Nat.le_refl _) (Nat.le_refl _) ⟨rfl, rfl, b_p, b_w, fr⟩
      · rw [if_pos c31] at hF
        refine rx_iconst C dX2_letFirstTry_102 (1 : Int32) (by decide) ?_
        refine rx_goto C dX2_letFirstTry_103 107 (by decide) ?_
        replace hF := rx_leE hF; obtain ⟨o_p_37, e_o_p_37, hF⟩ := hF
        refine rx_cv (rx_rSN C (w_put b_p.2.2.1 (by decide)) Y_X8_put S_X8_put m_X2_66 ⟨⟨rfl, rfl⟩, ⟨(Nat.le_of_ble_eq_true rfl), (Nat.le_of_ble_eq_true rfl)⟩, ⟨(Nat.le_of_ble_eq_true rfl), (Nat.le_of_ble_eq_true rfl)⟩⟩ rfl rfl (Nat.le_of_ble_eq_true rfl) dX2_letFirstTry_107) (fun hh n1 hpp => ?_)
        obtain ⟨c_p, ff, hn⟩ := b_p.wr5 e_o_p_37 hpp
        replace hn := Eq.symm hn
        subst hn
        replace b_p := c_p
        replace b_w := b_w.keep ff ⟨s_w_p, trivial⟩
        replace b_st := b_st.keep ff ⟨s_st_p, trivial⟩
        replace fr := rx_frt fr ff (fun a ha => ⟨ha.1, trivial⟩)
        refine rx_aload_n C dX2_letFirstTry_110 3 rfl ?_
        refine rx_getf C f_X2_27 dX2_letFirstTry_111 b_p.1 rfl ?_
        refine rx_iload_n C dX2_letFirstTry_114 2 rfl ?_
        refine rx_iconst C dX2_letFirstTry_115 (1 : Int32) (by decide) ?_
        replace hF := rx_leE hF; obtain ⟨o_p_38, e_o_p_38, hF⟩ := hF
        refine rx_cv (rx_rSN C (w_add b_p.2.2.2.2.2.2.1 (by decide)) Y_X8_add S_X8_add m_X2_160 ⟨⟨rfl, rfl⟩, ⟨(Nat.le_of_ble_eq_true rfl), (Nat.le_of_ble_eq_true rfl)⟩, ⟨(Nat.le_of_ble_eq_true rfl), (Nat.le_of_ble_eq_true rfl)⟩⟩ rfl rfl (Nat.le_of_ble_eq_true rfl) dX2_letFirstTry_116) (fun hh n1 hpp => ?_)
        obtain ⟨c_p, ff, hn⟩ := b_p.wr9 e_o_p_38 hpp
        replace hn := Eq.symm hn
        subst hn
        replace b_p := c_p
        replace b_w := b_w.keep ff ⟨s_w_p, trivial⟩
        replace b_st := b_st.keep ff ⟨s_st_p, trivial⟩
        replace fr := rx_frt fr ff (fun a ha => ⟨ha.1, trivial⟩)
        refine rx_aload_n C dX2_letFirstTry_119 3 rfl ?_
        refine rx_iload_n C dX2_letFirstTry_120 2 rfl ?_
        replace hF := rx_biE hF; obtain ⟨y39, e_y39, hF⟩ := hF
        refine rx_cv (rx_rV C (w_X2_countRoyalCoinsOf e_y39 b_p b_st (by omega)) Y_X2_countRoyalCoinsOf V_X2_countRoyalCoinsOf m_X2_163 (Or.inl ⟨_, _, _, _, b_p.1, rfl⟩) ⟨⟨rfl, rfl⟩, ⟨(Nat.le_of_ble_eq_true rfl), (Nat.le_of_ble_eq_true rfl)⟩, ⟨(Nat.le_of_ble_eq_true rfl), (Nat.le_of_ble_eq_true rfl)⟩⟩ rfl rfl (Nat.le_of_ble_eq_true rfl) dX2_letFirstTry_121) (fun hh n1 hpp => ?_)
        obtain ⟨hn, c_p, ff⟩ := hpp
        replace hn : n = n1 := Eq.symm hn
        subst hn
        replace b_p : bP k q g y39 hh := c_p
        clear c_p
        replace ff : rx_fr [(q, 10)] _ hh := ff
        replace b_w := b_w.keep ff ⟨s_w_p, trivial⟩
        replace b_st := b_st.keep ff ⟨s_st_p, trivial⟩
        replace fr := rx_frt fr ff (fun a ha => ⟨ha.1, trivial⟩)
        refine rx_aload_n C dX2_letFirstTry_124 3 rfl ?_
        refine rx_iload_n C dX2_letFirstTry_125 1 rfl ?_
        refine rx_aload_n C dX2_letFirstTry_126 3 rfl ?_
        refine rx_getf C f_X2_49 dX2_letFirstTry_127 b_p.1 rfl ?_
        refine rx_iload_n C dX2_letFirstTry_130 2 rfl ?_
        replace hF := rx_biE hF; obtain ⟨y40, e_y40, hF⟩ := hF
        refine rx_ci (rx_rVN C (w_X5_hasKing e_y40 b_st) Y_X5_hasKing V_X5_hasKing m_X2_80 (Or.inl ⟨_, _, _, _, b_st.1, rfl⟩) ⟨⟨rfl, rfl⟩, ⟨(Nat.le_of_ble_eq_true rfl), (Nat.le_of_ble_eq_true rfl)⟩, ⟨(Nat.le_of_ble_eq_true rfl), (Nat.le_of_ble_eq_true rfl)⟩⟩ rfl rfl (Nat.le_of_ble_eq_true rfl) dX2_letFirstTry_131) (fun r hh n1 hpp => ?_)
        obtain ⟨rfl, bo_y40, hu⟩ := hpp
        cases hu
        replace hF := rx_biE hF; obtain ⟨y41, e_y41, hF⟩ := hF
        refine rx_cv (rx_rV C (w_X2_learn e_y41 b_p b_st (by omega)) Y_X2_learn V_X2_learn m_X2_166 (Or.inl ⟨_, _, _, _, b_p.1, rfl⟩) ⟨⟨rfl, rfl⟩, ⟨(Nat.le_of_ble_eq_true rfl), (Nat.le_of_ble_eq_true rfl)⟩, ⟨(Nat.le_of_ble_eq_true rfl), (Nat.le_of_ble_eq_true rfl)⟩⟩ rfl rfl (Nat.le_of_ble_eq_true rfl) dX2_letFirstTry_134) (fun hh n1 hpp => ?_)
        obtain ⟨hn, c_p, ff⟩ := hpp
        replace hn : n = n1 := Eq.symm hn
        subst hn
        replace b_p : bP k q g y41 hh := c_p
        clear c_p
        replace ff : rx_fr [(q, 10)] _ hh := ff
        replace b_w := b_w.keep ff ⟨s_w_p, trivial⟩
        replace b_st := b_st.keep ff ⟨s_st_p, trivial⟩
        replace fr := rx_frt fr ff (fun a ha => ⟨ha.1, trivial⟩)
        refine rx_iconst C dX2_letFirstTry_137 (1 : Int32) (by decide) ?_
        obtain rfl := Option.some.inj hF
        exact rx_iret C dX2_letFirstTry_138 (Nat.le_refl _) (Nat.le_refl _) ⟨rfl, rfl, b_p, b_w, fr⟩
    · rw [if_neg c27] at hF
      refine rx_iconst C dX2_letFirstTry_66 (0 : Int32) (by decide) ?_
      obtain rfl := Option.some.inj hF
      exact rx_iret C dX2_letFirstTry_67 (Nat.le_refl _) (Nat.le_refl _) ⟨rfl, rfl, b_p, b_w, fr⟩
def F_X2_letFirstTry_e (op : ob) (oe : ob) (ost : ob) : Option (Int32 × ob × ob) := (F_X3_personAt oe ((0 : Int32))).bind fun y1 => (F_X2_keeperAngleIn op ost y1 ((rx_at 10 (op.2 8) y1))).bind fun y2 => if (op.1 2) ≤ y2 then ((F_X3_offerAt oe ((0 : Int32))).bind fun y4 => (F_X5_tollFor ost ((0 : Int32))).bind fun y5 => rx_le ((y4 + y5)) fun v6 => (F_X3_removeAt oe ((0 : Int32))).bind fun y7 => if v6 ≤ (rx_at 10 (op.2 6) y1) then (rx_le (op.1, va_up op.2 6 (rx_put 10 (op.2 6) y1 (rx_at 10 (op.2 6) y1 + (-v6)))) fun o_p_9 => rx_le (upd o_p_9.1 3 (((o_p_9.1 3) + v6)), o_p_9.2) fun o_p_10 => (F_X2_departureBank o_p_10).bind fun y11 => if y11 = (0 : Int32) then (rx_le (o_p_10.1, va_up o_p_10.2 5 (rx_put 10 (o_p_10.2 5) y1 ((1 : Int32)))) fun o_p_18 => rx_le (o_p_18.1, va_up o_p_18.2 9 (rx_put 10 (o_p_18.2 9) y1 (rx_at 10 (o_p_18.2 9) y1 + (1 : Int32)))) fun o_p_19 => (F_X2_countRoyalCoinsOf o_p_19 ost y1).bind fun y20 => (F_X5_hasKing ost y1).bind fun y21 => (F_X2_learn y20 ost ((0 : Int32)) y21).bind fun y22 => some ((1 : Int32), y22, y7)) else (rx_le (o_p_10.1, va_up o_p_10.2 5 (rx_put 10 (o_p_10.2 5) y1 ((0 : Int32)))) fun o_p_13 => rx_le (o_p_13.1, va_up o_p_13.2 9 (rx_put 10 (o_p_13.2 9) y1 (rx_at 10 (o_p_13.2 9) y1 + (1 : Int32)))) fun o_p_14 => (F_X2_countRoyalCoinsOf o_p_14 ost y1).bind fun y15 => (F_X5_hasKing ost y1).bind fun y16 => (F_X2_learn y15 ost ((0 : Int32)) y16).bind fun y17 => some ((1 : Int32), y17, y7))) else (some ((0 : Int32), op, y7))) else ((F_X3_offerAt oe ((0 : Int32))).bind fun y23 => (F_X5_tollFor ost ((1 : Int32))).bind fun y24 => rx_le ((y23 + y24)) fun v25 => (F_X3_removeAt oe ((0 : Int32))).bind fun y26 => if v25 ≤ (rx_at 10 (op.2 6) y1) then (rx_le (op.1, va_up op.2 6 (rx_put 10 (op.2 6) y1 (rx_at 10 (op.2 6) y1 + (-v25)))) fun o_p_28 => rx_le (upd o_p_28.1 3 (((o_p_28.1 3) + v25)), o_p_28.2) fun o_p_29 => (F_X2_departureBank o_p_29).bind fun y30 => if y30 = (0 : Int32) then (rx_le (o_p_29.1, va_up o_p_29.2 5 (rx_put 10 (o_p_29.2 5) y1 ((1 : Int32)))) fun o_p_37 => rx_le (o_p_37.1, va_up o_p_37.2 9 (rx_put 10 (o_p_37.2 9) y1 (rx_at 10 (o_p_37.2 9) y1 + (1 : Int32)))) fun o_p_38 => (F_X2_countRoyalCoinsOf o_p_38 ost y1).bind fun y39 => (F_X5_hasKing ost y1).bind fun y40 => (F_X2_learn y39 ost ((1 : Int32)) y40).bind fun y41 => some ((1 : Int32), y41, y26)) else (rx_le (o_p_29.1, va_up o_p_29.2 5 (rx_put 10 (o_p_29.2 5) y1 ((0 : Int32)))) fun o_p_32 => rx_le (o_p_32.1, va_up o_p_32.2 9 (rx_put 10 (o_p_32.2 9) y1 (rx_at 10 (o_p_32.2 9) y1 + (1 : Int32)))) fun o_p_33 => (F_X2_countRoyalCoinsOf o_p_33 ost y1).bind fun y34 => (F_X5_hasKing ost y1).bind fun y35 => (F_X2_learn y34 ost ((1 : Int32)) y35).bind fun y36 => some ((1 : Int32), y36, y26))) else (some ((0 : Int32), op, y26)))
set_option maxRecDepth 100000 in
set_option maxHeartbeats 4000000 in
theorem w_X2_letFirstTry_e {q g : Nat} {op : ob} {oe : ob} {ost : ob} {y : Int32 × ob × ob} (hF : F_X2_letFirstTry_e op oe ost = some y) (b_p : bP k q g op h) (b_e : bQ k (q + 13) oe h) (b_st : bS k g ost h) (hd0 : q + 16 ≤ g ∨ g + 9 ≤ q) : Met l yX2_letFirstTry (rx_ws yX2_letFirstTry cX2_letFirstTry 5 (some .int)) (rx_rm 2 44) (va_Pc [.ref q, .ref (q + 13)] (rx_G G k h n)) (va_Qi (fun r u => y.1 = r ∧ u.2 = n ∧ bP k q g y.2.1 u.1 ∧ bQ k (q + 13) y.2.2 u.1 ∧ rx_fr [(q, 10), (q + 13, 3)] h u.1) (rx_B G k) (rx_A k)) 0 0 (rx_A k) := by
  have s_p_e : q + 10 ≤ q + 13 ∨ q + 13 + 3 ≤ q := by omega
  have s_st_e : g + 9 ≤ q + 13 ∨ q + 13 + 3 ≤ g := by omega
  have s_e_p : q + 13 + 3 ≤ q ∨ q + 10 ≤ q + 13 := by omega
  have s_st_p : g + 9 ≤ q ∨ q + 10 ≤ g := by omega
  refine rx_start [(0, .ref q), (1, .ref (q + 13))] rfl (Nat.le_of_ble_eq_true rfl) (by decide) rfl (fun P9 E9 S9 M9 A9 B9 me9 c9 C hname => ?_)
  unfold F_X2_letFirstTry_e at hF
  have fr : rx_fr [(q, 10), (q + 13, 3)] h h := rx_fr0
  refine rx_aload_n C dX2_letFirstTry_0 1 rfl ?_
  refine rx_iconst C dX2_letFirstTry_1 (0 : Int32) (by decide) ?_
  replace hF := rx_biE hF; obtain ⟨y1, e_y1, hF⟩ := hF
  refine rx_ci (rx_rVN C (w_X3_personAt e_y1 b_e) Y_X3_personAt V_X3_personAt m_X2_153 (Or.inl ⟨_, _, _, _, b_e.1, rfl⟩) ⟨⟨rfl, rfl⟩, ⟨(Nat.le_of_ble_eq_true rfl), (Nat.le_of_ble_eq_true rfl)⟩, ⟨(Nat.le_of_ble_eq_true rfl), (Nat.le_of_ble_eq_true rfl)⟩⟩ rfl rfl (Nat.le_of_ble_eq_true rfl) dX2_letFirstTry_2) (fun r hh n1 hpp => ?_)
  obtain ⟨rfl, hu⟩ := hpp
  cases hu
  refine rx_istore_n C dX2_letFirstTry_5 (by decide) [(2, .int y1), (0, .ref q), (1, .ref (q + 13))] rfl ?_
  refine rx_aload_n C dX2_letFirstTry_6 1 rfl ?_
  refine rx_iload_n C dX2_letFirstTry_7 0 rfl ?_
  refine rx_aload_n C dX2_letFirstTry_8 1 rfl ?_
  refine rx_getf C f_X2_24 dX2_letFirstTry_9 b_p.1 rfl ?_
  refine rx_iload_n C dX2_letFirstTry_12 0 rfl ?_
  refine rx_ci (rx_rSN C (w_at b_p.2.2.2.2.2.1 (by decide)) Y_X8_at S_X8_at m_X2_91 ⟨⟨rfl, rfl⟩, ⟨(Nat.le_of_ble_eq_true rfl), (Nat.le_of_ble_eq_true rfl)⟩, ⟨(Nat.le_of_ble_eq_true rfl), (Nat.le_of_ble_eq_true rfl)⟩⟩ rfl rfl (Nat.le_of_ble_eq_true rfl) dX2_letFirstTry_13) (fun r hh n1 hpp => ?_)
  obtain ⟨rfl, hu⟩ := hpp
  cases hu
  replace hF := rx_biE hF; obtain ⟨y2, e_y2, hF⟩ := hF
  refine rx_ci (rx_rV C (w_X2_keeperAngleIn e_y2 b_p b_st (by omega)) Y_X2_keeperAngleIn V_X2_keeperAngleIn m_X2_105 (Or.inl ⟨_, _, _, _, b_p.1, rfl⟩) ⟨⟨rfl, rfl⟩, ⟨(Nat.le_of_ble_eq_true rfl), (Nat.le_of_ble_eq_true rfl)⟩, ⟨(Nat.le_of_ble_eq_true rfl), (Nat.le_of_ble_eq_true rfl)⟩⟩ rfl rfl (Nat.le_of_ble_eq_true rfl) dX2_letFirstTry_16) (fun r hh n1 hpp => ?_)
  obtain ⟨rfl, hu⟩ := hpp
  cases hu
  refine rx_aload_n C dX2_letFirstTry_19 1 rfl ?_
  refine rx_getf C f_X2_62 dX2_letFirstTry_20 b_p.1 rfl ?_
  refine rx_icmp_ge C dX2_letFirstTry_23 30 (by decide) (fun c3 => ?_) (fun c3 => ?_)
  · rw [if_pos c3] at hF
    refine rx_iconst C dX2_letFirstTry_30 (0 : Int32) (by decide) ?_
    refine rx_istore_n C dX2_letFirstTry_31 (by decide) [(3, .int ((0 : Int32))), (2, .int y1), (0, .ref q), (1, .ref (q + 13))] rfl ?_
    refine rx_aload_n C dX2_letFirstTry_32 3 rfl ?_
    refine rx_iconst C dX2_letFirstTry_33 (0 : Int32) (by decide) ?_
    replace hF := rx_biE hF; obtain ⟨y4, e_y4, hF⟩ := hF
    refine rx_ci (rx_rVN C (w_X3_offerAt e_y4 b_e) Y_X3_offerAt V_X3_offerAt m_X2_129 (Or.inl ⟨_, _, _, _, b_e.1, rfl⟩) ⟨⟨rfl, rfl⟩, ⟨(Nat.le_of_ble_eq_true rfl), (Nat.le_of_ble_eq_true rfl)⟩, ⟨(Nat.le_of_ble_eq_true rfl), (Nat.le_of_ble_eq_true rfl)⟩⟩ rfl rfl (Nat.le_of_ble_eq_true rfl) dX2_letFirstTry_34) (fun r hh n1 hpp => ?_)
    obtain ⟨rfl, hu⟩ := hpp
    cases hu
    refine rx_aload_n C dX2_letFirstTry_37 2 rfl ?_
    refine rx_getf C f_X2_49 dX2_letFirstTry_38 b_p.1 rfl ?_
    refine rx_iload_n C dX2_letFirstTry_41 0 rfl ?_
    replace hF := rx_biE hF; obtain ⟨y5, e_y5, hF⟩ := hF
    refine rx_ci (rx_rVN C (w_X5_tollFor e_y5 b_st) Y_X5_tollFor V_X5_tollFor m_X2_111 (Or.inl ⟨_, _, _, _, b_st.1, rfl⟩) ⟨⟨rfl, rfl⟩, ⟨(Nat.le_of_ble_eq_true rfl), (Nat.le_of_ble_eq_true rfl)⟩, ⟨(Nat.le_of_ble_eq_true rfl), (Nat.le_of_ble_eq_true rfl)⟩⟩ rfl rfl (Nat.le_of_ble_eq_true rfl) dX2_letFirstTry_42) (fun r hh n1 hpp => ?_)
    obtain ⟨rfl, hu⟩ := hpp
    cases hu
    refine rx_iadd C dX2_letFirstTry_45 ?_
    replace hF := rx_leE hF; obtain ⟨v6, e_v6, hF⟩ := hF
    rw [e_v6]
    refine rx_istore C dX2_letFirstTry_46 (by decide) [(4, .int v6), (3, .int ((0 : Int32))), (2, .int y1), (0, .ref q), (1, .ref (q + 13))] rfl ?_
    refine rx_aload_n C dX2_letFirstTry_48 4 rfl ?_
    refine rx_iconst C dX2_letFirstTry_49 (0 : Int32) (by decide) ?_
    replace hF := rx_biE hF; obtain ⟨y7, e_y7, hF⟩ := hF
    refine rx_cv (rx_rVN C (w_X3_removeAt e_y7 b_e) Y_X3_removeAt V_X3_removeAt m_X2_156 (Or.inl ⟨_, _, _, _, b_e.1, rfl⟩) ⟨⟨rfl, rfl⟩, ⟨(Nat.le_of_ble_eq_true rfl), (Nat.le_of_ble_eq_true rfl)⟩, ⟨(Nat.le_of_ble_eq_true rfl), (Nat.le_of_ble_eq_true rfl)⟩⟩ rfl rfl (Nat.le_of_ble_eq_true rfl) dX2_letFirstTry_50) (fun hh n1 hpp => ?_)
    obtain ⟨hn, c_e, ff⟩ := hpp
    replace hn : n = n1 := Eq.symm hn
    subst hn
    replace b_e : bQ k (q + 13) y7 hh := c_e
    clear c_e
    replace ff : rx_fr [(q + 13, 3)] _ hh := ff
    replace b_p := b_p.keep ff ⟨s_p_e, trivial⟩
    replace b_st := b_st.keep ff ⟨s_st_e, trivial⟩
    replace fr := rx_frt fr ff (fun a ha => ⟨ha.2.1, trivial⟩)
    refine rx_aload_n C dX2_letFirstTry_53 3 rfl ?_
    refine rx_getf C f_X2_18 dX2_letFirstTry_54 b_p.1 rfl ?_
    refine rx_iload_n C dX2_letFirstTry_57 2 rfl ?_
    refine rx_ci (rx_rSN C (w_at b_p.2.2.2.1 (by decide)) Y_X8_at S_X8_at m_X2_91 ⟨⟨rfl, rfl⟩, ⟨(Nat.le_of_ble_eq_true rfl), (Nat.le_of_ble_eq_true rfl)⟩, ⟨(Nat.le_of_ble_eq_true rfl), (Nat.le_of_ble_eq_true rfl)⟩⟩ rfl rfl (Nat.le_of_ble_eq_true rfl) dX2_letFirstTry_58) (fun r hh n1 hpp => ?_)
    obtain ⟨rfl, hu⟩ := hpp
    cases hu
    refine rx_iload C dX2_letFirstTry_61 0 rfl ?_
    refine rx_icmp_ge C dX2_letFirstTry_63 68 (by decide) (fun c8 => ?_) (fun c8 => ?_)
    · rw [if_pos c8] at hF
      refine rx_aload_n C dX2_letFirstTry_68 3 rfl ?_
      refine rx_getf C f_X2_18 dX2_letFirstTry_69 b_p.1 rfl ?_
      refine rx_iload_n C dX2_letFirstTry_72 2 rfl ?_
      refine rx_iload C dX2_letFirstTry_73 0 rfl ?_
      refine rx_ineg C dX2_letFirstTry_75 ?_
      replace hF := rx_leE hF; obtain ⟨o_p_9, e_o_p_9, hF⟩ := hF
      refine rx_cv (rx_rSN C (w_add b_p.2.2.2.1 (by decide)) Y_X8_add S_X8_add m_X2_160 ⟨⟨rfl, rfl⟩, ⟨(Nat.le_of_ble_eq_true rfl), (Nat.le_of_ble_eq_true rfl)⟩, ⟨(Nat.le_of_ble_eq_true rfl), (Nat.le_of_ble_eq_true rfl)⟩⟩ rfl rfl (Nat.le_of_ble_eq_true rfl) dX2_letFirstTry_76) (fun hh n1 hpp => ?_)
      obtain ⟨c_p, ff, hn⟩ := b_p.wr6 e_o_p_9 hpp
      replace hn := Eq.symm hn
      subst hn
      replace b_p := c_p
      replace b_e := b_e.keep ff ⟨s_e_p, trivial⟩
      replace b_st := b_st.keep ff ⟨s_st_p, trivial⟩
      replace fr := rx_frt fr ff (fun a ha => ⟨ha.1, trivial⟩)
      refine rx_aload_n C dX2_letFirstTry_79 3 rfl ?_
      refine rx_dup C dX2_letFirstTry_80 rfl ?_
      refine rx_getf C f_X2_63 dX2_letFirstTry_81 b_p.1 rfl ?_
      refine rx_iload C dX2_letFirstTry_84 0 rfl ?_
      refine rx_iadd C dX2_letFirstTry_86 ?_
      replace hF := rx_leE hF; obtain ⟨o_p_10, e_o_p_10, hF⟩ := hF
      refine rx_pP3 C f_X2_63 dX2_letFirstTry_87 b_p e_o_p_10 (fun hh c_p ff => ?_)
      replace b_p := c_p
      replace b_e := b_e.keep ff ⟨s_e_p, trivial⟩
      replace b_st := b_st.keep ff ⟨s_st_p, trivial⟩
      replace fr := rx_frt fr ff (fun a ha => ⟨ha.1, trivial⟩)
      refine rx_aload_n C dX2_letFirstTry_90 3 rfl ?_
      refine rx_getf C f_X2_15 dX2_letFirstTry_91 b_p.1 rfl ?_
      refine rx_iload_n C dX2_letFirstTry_94 2 rfl ?_
      refine rx_aload_n C dX2_letFirstTry_95 3 rfl ?_
      replace hF := rx_biE hF; obtain ⟨y11, e_y11, hF⟩ := hF
      refine rx_ci (rx_rV C (w_X2_departureBank e_y11 b_p) Y_X2_departureBank V_X2_departureBank m_X2_136 (Or.inl ⟨_, _, _, _, b_p.1, rfl⟩) ⟨⟨rfl, rfl⟩, ⟨(Nat.le_of_ble_eq_true rfl), (Nat.le_of_ble_eq_true rfl)⟩, ⟨(Nat.le_of_ble_eq_true rfl), (Nat.le_of_ble_eq_true rfl)⟩⟩ rfl rfl (Nat.le_of_ble_eq_true rfl) dX2_letFirstTry_96) (fun r hh n1 hpp => ?_)
      obtain ⟨rfl, hu⟩ := hpp
      cases hu
      refine rx_if_ne C dX2_letFirstTry_99 106 (by decide) (fun c12 => ?_) (fun c12 => ?_)
      · rw [if_neg c12] at hF
        refine rx_iconst C dX2_letFirstTry_106 (0 : Int32) (by decide) ?_
        replace hF := rx_leE hF; obtain ⟨o_p_13, e_o_p_13, hF⟩ := hF
        refine rx_cv (rx_rSN C (w_put b_p.2.2.1 (by decide)) Y_X8_put S_X8_put m_X2_66 ⟨⟨rfl, rfl⟩, ⟨(Nat.le_of_ble_eq_true rfl), (Nat.le_of_ble_eq_true rfl)⟩, ⟨(Nat.le_of_ble_eq_true rfl), (Nat.le_of_ble_eq_true rfl)⟩⟩ rfl rfl (Nat.le_of_ble_eq_true rfl) dX2_letFirstTry_107) (fun hh n1 hpp => ?_)
        obtain ⟨c_p, ff, hn⟩ := b_p.wr5 e_o_p_13 hpp
        replace hn := Eq.symm hn
        subst hn
        replace b_p := c_p
        replace b_e := b_e.keep ff ⟨s_e_p, trivial⟩
        replace b_st := b_st.keep ff ⟨s_st_p, trivial⟩
        replace fr := rx_frt fr ff (fun a ha => ⟨ha.1, trivial⟩)
        refine rx_aload_n C dX2_letFirstTry_110 3 rfl ?_
        refine rx_getf C f_X2_27 dX2_letFirstTry_111 b_p.1 rfl ?_
        refine rx_iload_n C dX2_letFirstTry_114 2 rfl ?_
        refine rx_iconst C dX2_letFirstTry_115 (1 : Int32) (by decide) ?_
        replace hF := rx_leE hF; obtain ⟨o_p_14, e_o_p_14, hF⟩ := hF
        refine rx_cv (rx_rSN C (w_add b_p.2.2.2.2.2.2.1 (by decide)) Y_X8_add S_X8_add m_X2_160 ⟨⟨rfl, rfl⟩, ⟨(Nat.le_of_ble_eq_true rfl), (Nat.le_of_ble_eq_true rfl)⟩, ⟨(Nat.le_of_ble_eq_true rfl), (Nat.le_of_ble_eq_true rfl)⟩⟩ rfl rfl (Nat.le_of_ble_eq_true rfl) dX2_letFirstTry_116) (fun hh n1 hpp => ?_)
        obtain ⟨c_p, ff, hn⟩ := b_p.wr9 e_o_p_14 hpp
        replace hn := Eq.symm hn
        subst hn
        replace b_p := c_p
        replace b_e := b_e.keep ff ⟨s_e_p, trivial⟩
        replace b_st := b_st.keep ff ⟨s_st_p, trivial⟩
        replace fr := rx_frt fr ff (fun a ha => ⟨ha.1, trivial⟩)
        refine rx_aload_n C dX2_letFirstTry_119 3 rfl ?_
        refine rx_iload_n C dX2_letFirstTry_120 2 rfl ?_
        replace hF := rx_biE hF; obtain ⟨y15, e_y15, hF⟩ := hF
        refine rx_cv (rx_rV C (w_X2_countRoyalCoinsOf e_y15 b_p b_st (by omega)) Y_X2_countRoyalCoinsOf V_X2_countRoyalCoinsOf m_X2_163 (Or.inl ⟨_, _, _, _, b_p.1, rfl⟩) ⟨⟨rfl, rfl⟩, ⟨(Nat.le_of_ble_eq_true rfl), (Nat.le_of_ble_eq_true rfl)⟩, ⟨(Nat.le_of_ble_eq_true rfl), (Nat.le_of_ble_eq_true rfl)⟩⟩ rfl rfl (Nat.le_of_ble_eq_true rfl) dX2_letFirstTry_121) (fun hh n1 hpp => ?_)
        obtain ⟨hn, c_p, ff⟩ := hpp
        replace hn : n = n1 := Eq.symm hn
        subst hn
        replace b_p : bP k q g y15 hh := c_p
        clear c_p
        replace ff : rx_fr [(q, 10)] _ hh := ff
        replace b_e := b_e.keep ff ⟨s_e_p, trivial⟩
        replace b_st := b_st.keep ff ⟨s_st_p, trivial⟩
        replace fr := rx_frt fr ff (fun a ha => ⟨ha.1, trivial⟩)
        refine rx_aload_n C dX2_letFirstTry_124 3 rfl ?_
        refine rx_iload_n C dX2_letFirstTry_125 1 rfl ?_
        refine rx_aload_n C dX2_letFirstTry_126 3 rfl ?_
        refine rx_getf C f_X2_49 dX2_letFirstTry_127 b_p.1 rfl ?_
        refine rx_iload_n C dX2_letFirstTry_130 2 rfl ?_
        replace hF := rx_biE hF; obtain ⟨y16, e_y16, hF⟩ := hF
        refine rx_ci (rx_rVN C (w_X5_hasKing e_y16 b_st) Y_X5_hasKing V_X5_hasKing m_X2_80 (Or.inl ⟨_, _, _, _, b_st.1, rfl⟩) ⟨⟨rfl, rfl⟩, ⟨(Nat.le_of_ble_eq_true rfl), (Nat.le_of_ble_eq_true rfl)⟩, ⟨(Nat.le_of_ble_eq_true rfl), (Nat.le_of_ble_eq_true rfl)⟩⟩ rfl rfl (Nat.le_of_ble_eq_true rfl) dX2_letFirstTry_131) (fun r hh n1 hpp => ?_)
        obtain ⟨rfl, bo_y16, hu⟩ := hpp
        cases hu
        replace hF := rx_biE hF; obtain ⟨y17, e_y17, hF⟩ := hF
        refine rx_cv (rx_rV C (w_X2_learn e_y17 b_p b_st (by omega)) Y_X2_learn V_X2_learn m_X2_166 (Or.inl ⟨_, _, _, _, b_p.1, rfl⟩) ⟨⟨rfl, rfl⟩, ⟨(Nat.le_of_ble_eq_true rfl), (Nat.le_of_ble_eq_true rfl)⟩, ⟨(Nat.le_of_ble_eq_true rfl), (Nat.le_of_ble_eq_true rfl)⟩⟩ rfl rfl (Nat.le_of_ble_eq_true rfl) dX2_letFirstTry_134) (fun hh n1 hpp => ?_)
        obtain ⟨hn, c_p, ff⟩ := hpp
        replace hn : n = n1 := Eq.symm hn
        subst hn
        replace b_p : bP k q g y17 hh := c_p
        clear c_p
        replace ff : rx_fr [(q, 10)] _ hh := ff
        replace b_e := b_e.keep ff ⟨s_e_p, trivial⟩
        replace b_st := b_st.keep ff ⟨s_st_p, trivial⟩
        replace fr := rx_frt fr ff (fun a ha => ⟨ha.1, trivial⟩)
        refine rx_iconst C dX2_letFirstTry_137 (1 : Int32) (by decide) ?_
        obtain rfl := Option.some.inj hF
        exact rx_iret C dX2_letFirstTry_138 (Nat.le_refl _) (Nat.le_refl _) ⟨rfl, rfl, b_p, b_e, fr⟩
      · rw [if_pos c12] at hF
        refine rx_iconst C dX2_letFirstTry_102 (1 : Int32) (by decide) ?_
        refine rx_goto C dX2_letFirstTry_103 107 (by decide) ?_
        replace hF := rx_leE hF; obtain ⟨o_p_18, e_o_p_18, hF⟩ := hF
        refine rx_cv (rx_rSN C (w_put b_p.2.2.1 (by decide)) Y_X8_put S_X8_put m_X2_66 ⟨⟨rfl, rfl⟩, ⟨(Nat.le_of_ble_eq_true rfl), (Nat.le_of_ble_eq_true rfl)⟩, ⟨(Nat.le_of_ble_eq_true rfl), (Nat.le_of_ble_eq_true rfl)⟩⟩ rfl rfl (Nat.le_of_ble_eq_true rfl) dX2_letFirstTry_107) (fun hh n1 hpp => ?_)
        obtain ⟨c_p, ff, hn⟩ := b_p.wr5 e_o_p_18 hpp
        replace hn := Eq.symm hn
        subst hn
        replace b_p := c_p
        replace b_e := b_e.keep ff ⟨s_e_p, trivial⟩
        replace b_st := b_st.keep ff ⟨s_st_p, trivial⟩
        replace fr := rx_frt fr ff (fun a ha => ⟨ha.1, trivial⟩)
        refine rx_aload_n C dX2_letFirstTry_110 3 rfl ?_
        refine rx_getf C f_X2_27 dX2_letFirstTry_111 b_p.1 rfl ?_
        refine rx_iload_n C dX2_letFirstTry_114 2 rfl ?_
        refine rx_iconst C dX2_letFirstTry_115 (1 : Int32) (by decide) ?_
        replace hF := rx_leE hF; obtain ⟨o_p_19, e_o_p_19, hF⟩ := hF
        refine rx_cv (rx_rSN C (w_add b_p.2.2.2.2.2.2.1 (by decide)) Y_X8_add S_X8_add m_X2_160 ⟨⟨rfl, rfl⟩, ⟨(Nat.le_of_ble_eq_true rfl), (Nat.le_of_ble_eq_true rfl)⟩, ⟨(Nat.le_of_ble_eq_true rfl), (Nat.le_of_ble_eq_true rfl)⟩⟩ rfl rfl (Nat.le_of_ble_eq_true rfl) dX2_letFirstTry_116) (fun hh n1 hpp => ?_)
        obtain ⟨c_p, ff, hn⟩ := b_p.wr9 e_o_p_19 hpp
        replace hn := Eq.symm hn
        subst hn
        replace b_p := c_p
        replace b_e := b_e.keep ff ⟨s_e_p, trivial⟩
        replace b_st := b_st.keep ff ⟨s_st_p, trivial⟩
        replace fr := rx_frt fr ff (fun a ha => ⟨ha.1, trivial⟩)
        refine rx_aload_n C dX2_letFirstTry_119 3 rfl ?_
        refine rx_iload_n C dX2_letFirstTry_120 2 rfl ?_
        replace hF := rx_biE hF; obtain ⟨y20, e_y20, hF⟩ := hF
        refine rx_cv (rx_rV C (w_X2_countRoyalCoinsOf e_y20 b_p b_st (by omega)) Y_X2_countRoyalCoinsOf V_X2_countRoyalCoinsOf m_X2_163 (Or.inl ⟨_, _, _, _, b_p.1, rfl⟩) ⟨⟨rfl, rfl⟩, ⟨(Nat.le_of_ble_eq_true rfl), (Nat.le_of_ble_eq_true rfl)⟩, ⟨(Nat.le_of_ble_eq_true rfl), (Nat.le_of_ble_eq_true rfl)⟩⟩ rfl rfl (Nat.le_of_ble_eq_true rfl) dX2_letFirstTry_121) (fun hh n1 hpp => ?_)
        obtain ⟨hn, c_p, ff⟩ := hpp
        replace hn : n = n1 := Eq.symm hn
        subst hn
        replace b_p : bP k q g y20 hh := c_p
        clear c_p
        replace ff : rx_fr [(q, 10)] _ hh := ff
        replace b_e := b_e.keep ff ⟨s_e_p, trivial⟩
        replace b_st := b_st.keep ff ⟨s_st_p, trivial⟩
        replace fr := rx_frt fr ff (fun a ha => ⟨ha.1, trivial⟩)
        refine rx_aload_n C dX2_letFirstTry_124 3 rfl ?_
        refine rx_iload_n C dX2_letFirstTry_125 1 rfl ?_
        refine rx_aload_n C dX2_letFirstTry_126 3 rfl ?_
        refine rx_getf C f_X2_49 dX2_letFirstTry_127 b_p.1 rfl ?_
        refine rx_iload_n C dX2_letFirstTry_130 2 rfl ?_
        replace hF := rx_biE hF; obtain ⟨y21, e_y21, hF⟩ := hF
        refine rx_ci (rx_rVN C (w_X5_hasKing e_y21 b_st) Y_X5_hasKing V_X5_hasKing m_X2_80 (Or.inl ⟨_, _, _, _, b_st.1, rfl⟩) ⟨⟨rfl, rfl⟩, ⟨(Nat.le_of_ble_eq_true rfl), (Nat.le_of_ble_eq_true rfl)⟩, ⟨(Nat.le_of_ble_eq_true rfl), (Nat.le_of_ble_eq_true rfl)⟩⟩ rfl rfl (Nat.le_of_ble_eq_true rfl) dX2_letFirstTry_131) (fun r hh n1 hpp => ?_)
        obtain ⟨rfl, bo_y21, hu⟩ := hpp
        cases hu
        replace hF := rx_biE hF; obtain ⟨y22, e_y22, hF⟩ := hF
        refine rx_cv (rx_rV C (w_X2_learn e_y22 b_p b_st (by omega)) Y_X2_learn V_X2_learn m_X2_166 (Or.inl ⟨_, _, _, _, b_p.1, rfl⟩) ⟨⟨rfl, rfl⟩, ⟨(Nat.le_of_ble_eq_true rfl), (Nat.le_of_ble_eq_true rfl)⟩, ⟨(Nat.le_of_ble_eq_true rfl), (Nat.le_of_ble_eq_true rfl)⟩⟩ rfl rfl (Nat.le_of_ble_eq_true rfl) dX2_letFirstTry_134) (fun hh n1 hpp => ?_)
        obtain ⟨hn, c_p, ff⟩ := hpp
        replace hn : n = n1 := Eq.symm hn
        subst hn
        replace b_p : bP k q g y22 hh := c_p
        clear c_p
        replace ff : rx_fr [(q, 10)] _ hh := ff
        replace b_e := b_e.keep ff ⟨s_e_p, trivial⟩
        replace b_st := b_st.keep ff ⟨s_st_p, trivial⟩
        replace fr := rx_frt fr ff (fun a ha => ⟨ha.1, trivial⟩)
        refine rx_iconst C dX2_letFirstTry_137 (1 : Int32) (by decide) ?_
        obtain rfl := Option.some.inj hF
        exact rx_iret C dX2_letFirstTry_138 (Nat.le_refl _) (Nat.le_refl _) ⟨rfl, rfl, b_p, b_e, fr⟩
    · rw [if_neg c8] at hF
      refine rx_iconst C dX2_letFirstTry_66 (0 : Int32) (by decide) ?_
      obtain rfl := Option.some.inj hF
      exact rx_iret C dX2_letFirstTry_67 (Nat.le_refl _) (Nat.le_refl _) ⟨rfl, rfl, b_p, b_e, fr⟩
  · rw [if_neg c3] at hF
    refine rx_iconst C dX2_letFirstTry_26 (1 : Int32) (by decide) ?_
    refine rx_goto C dX2_letFirstTry_27 31 (by decide) ?_
    refine rx_istore_n C dX2_letFirstTry_31 (by decide) [(3, .int ((1 : Int32))), (2, .int y1), (0, .ref q), (1, .ref (q + 13))] rfl ?_
    refine rx_aload_n C dX2_letFirstTry_32 3 rfl ?_
    refine rx_iconst C dX2_letFirstTry_33 (0 : Int32) (by decide) ?_
    replace hF := rx_biE hF; obtain ⟨y23, e_y23, hF⟩ := hF
    refine rx_ci (rx_rVN C (w_X3_offerAt e_y23 b_e) Y_X3_offerAt V_X3_offerAt m_X2_129 (Or.inl ⟨_, _, _, _, b_e.1, rfl⟩) ⟨⟨rfl, rfl⟩, ⟨(Nat.le_of_ble_eq_true rfl), (Nat.le_of_ble_eq_true rfl)⟩, ⟨(Nat.le_of_ble_eq_true rfl), (Nat.le_of_ble_eq_true rfl)⟩⟩ rfl rfl (Nat.le_of_ble_eq_true rfl) dX2_letFirstTry_34) (fun r hh n1 hpp => ?_)
    obtain ⟨rfl, hu⟩ := hpp
    cases hu
    refine rx_aload_n C dX2_letFirstTry_37 2 rfl ?_
    refine rx_getf C f_X2_49 dX2_letFirstTry_38 b_p.1 rfl ?_
    refine rx_iload_n C dX2_letFirstTry_41 0 rfl ?_
    replace hF := rx_biE hF; obtain ⟨y24, e_y24, hF⟩ := hF
    refine rx_ci (rx_rVN C (w_X5_tollFor e_y24 b_st) Y_X5_tollFor V_X5_tollFor m_X2_111 (Or.inl ⟨_, _, _, _, b_st.1, rfl⟩) ⟨⟨rfl, rfl⟩, ⟨(Nat.le_of_ble_eq_true rfl), (Nat.le_of_ble_eq_true rfl)⟩, ⟨(Nat.le_of_ble_eq_true rfl), (Nat.le_of_ble_eq_true rfl)⟩⟩ rfl rfl (Nat.le_of_ble_eq_true rfl) dX2_letFirstTry_42) (fun r hh n1 hpp => ?_)
    obtain ⟨rfl, hu⟩ := hpp
    cases hu
    refine rx_iadd C dX2_letFirstTry_45 ?_
    replace hF := rx_leE hF; obtain ⟨v25, e_v25, hF⟩ := hF
    rw [e_v25]
    refine rx_istore C dX2_letFirstTry_46 (by decide) [(4, .int v25), (3, .int ((1 : Int32))), (2, .int y1), (0, .ref q), (1, .ref (q + 13))] rfl ?_
    refine rx_aload_n C dX2_letFirstTry_48 4 rfl ?_
    refine rx_iconst C dX2_letFirstTry_49 (0 : Int32) (by decide) ?_
    replace hF := rx_biE hF; obtain ⟨y26, e_y26, hF⟩ := hF
    refine rx_cv (rx_rVN C (w_X3_removeAt e_y26 b_e) Y_X3_removeAt V_X3_removeAt m_X2_156 (Or.inl ⟨_, _, _, _, b_e.1, rfl⟩) ⟨⟨rfl, rfl⟩, ⟨(Nat.le_of_ble_eq_true rfl), (Nat.le_of_ble_eq_true rfl)⟩, ⟨(Nat.le_of_ble_eq_true rfl), (Nat.le_of_ble_eq_true rfl)⟩⟩ rfl rfl (Nat.le_of_ble_eq_true rfl) dX2_letFirstTry_50) (fun hh n1 hpp => ?_)
    obtain ⟨hn, c_e, ff⟩ := hpp
    replace hn : n = n1 := Eq.symm hn
    subst hn
    replace b_e : bQ k (q + 13) y26 hh := c_e
    clear c_e
    replace ff : rx_fr [(q + 13, 3)] _ hh := ff
    replace b_p := b_p.keep ff ⟨s_p_e, trivial⟩
    replace b_st := b_st.keep ff ⟨s_st_e, trivial⟩
    replace fr := rx_frt fr ff (fun a ha => ⟨ha.2.1, trivial⟩)
    refine rx_aload_n C dX2_letFirstTry_53 3 rfl ?_
    refine rx_getf C f_X2_18 dX2_letFirstTry_54 b_p.1 rfl ?_
    refine rx_iload_n C dX2_letFirstTry_57 2 rfl ?_
    refine rx_ci (rx_rSN C (w_at b_p.2.2.2.1 (by decide)) Y_X8_at S_X8_at m_X2_91 ⟨⟨rfl, rfl⟩, ⟨(Nat.le_of_ble_eq_true rfl), (Nat.le_of_ble_eq_true rfl)⟩, ⟨(Nat.le_of_ble_eq_true rfl), (Nat.le_of_ble_eq_true rfl)⟩⟩ rfl rfl (Nat.le_of_ble_eq_true rfl) dX2_letFirstTry_58) (fun r hh n1 hpp => ?_)
    obtain ⟨rfl, hu⟩ := hpp
    cases hu
    refine rx_iload C dX2_letFirstTry_61 0 rfl ?_
    refine rx_icmp_ge C dX2_letFirstTry_63 68 (by decide) (fun c27 => ?_) (fun c27 => ?_)
    · rw [if_pos c27] at hF
      refine rx_aload_n C dX2_letFirstTry_68 3 rfl ?_
      refine rx_getf C f_X2_18 dX2_letFirstTry_69 b_p.1 rfl ?_
      refine rx_iload_n C dX2_letFirstTry_72 2 rfl ?_
      refine rx_iload C dX2_letFirstTry_73 0 rfl ?_
      refine rx_ineg C dX2_letFirstTry_75 ?_
      replace hF := rx_leE hF; obtain ⟨o_p_28, e_o_p_28, hF⟩ := hF
      refine rx_cv (rx_rSN C (w_add b_p.2.2.2.1 (by decide)) Y_X8_add S_X8_add m_X2_160 ⟨⟨rfl, rfl⟩, ⟨(Nat.le_of_ble_eq_true rfl), (Nat.le_of_ble_eq_true rfl)⟩, ⟨(Nat.le_of_ble_eq_true rfl), (Nat.le_of_ble_eq_true rfl)⟩⟩ rfl rfl (Nat.le_of_ble_eq_true rfl) dX2_letFirstTry_76) (fun hh n1 hpp => ?_)
      obtain ⟨c_p, ff, hn⟩ := b_p.wr6 e_o_p_28 hpp
      replace hn := Eq.symm hn
      subst hn
      replace b_p := c_p
      replace b_e := b_e.keep ff ⟨s_e_p, trivial⟩
      replace b_st := b_st.keep ff ⟨s_st_p, trivial⟩
      replace fr := rx_frt fr ff (fun a ha => ⟨ha.1, trivial⟩)
      refine rx_aload_n C dX2_letFirstTry_79 3 rfl ?_
      refine rx_dup C dX2_letFirstTry_80 rfl ?_
      refine rx_getf C f_X2_63 dX2_letFirstTry_81 b_p.1 rfl ?_
      refine rx_iload C dX2_letFirstTry_84 0 rfl ?_
      refine rx_iadd C dX2_letFirstTry_86 ?_
      replace hF := rx_leE hF; obtain ⟨o_p_29, e_o_p_29, hF⟩ := hF
      refine rx_pP3 C f_X2_63 dX2_letFirstTry_87 b_p e_o_p_29 (fun hh c_p ff => ?_)
      replace b_p := c_p
      replace b_e := b_e.keep ff ⟨s_e_p, trivial⟩
      replace b_st := b_st.keep ff ⟨s_st_p, trivial⟩
      replace fr := rx_frt fr ff (fun a ha => ⟨ha.1, trivial⟩)
      refine rx_aload_n C dX2_letFirstTry_90 3 rfl ?_
      refine rx_getf C f_X2_15 dX2_letFirstTry_91 b_p.1 rfl ?_
      refine rx_iload_n C dX2_letFirstTry_94 2 rfl ?_
      refine rx_aload_n C dX2_letFirstTry_95 3 rfl ?_
      replace hF := rx_biE hF; obtain ⟨y30, e_y30, hF⟩ := hF
      refine rx_ci (rx_rV C (w_X2_departureBank e_y30 b_p) Y_X2_departureBank V_X2_departureBank m_X2_136 (Or.inl ⟨_, _, _, _, b_p.1, rfl⟩) ⟨⟨rfl, rfl⟩, ⟨(Nat.le_of_ble_eq_true rfl), (Nat.le_of_ble_eq_true rfl)⟩, ⟨(Nat.le_of_ble_eq_true rfl), (Nat.le_of_ble_eq_true rfl)⟩⟩ rfl rfl (Nat.le_of_ble_eq_true rfl) dX2_letFirstTry_96) (fun r hh n1 hpp => ?_)
      obtain ⟨rfl, hu⟩ := hpp
      cases hu
      refine rx_if_ne C dX2_letFirstTry_99 106 (by decide) (fun c31 => ?_) (fun c31 => ?_)
      · rw [if_neg c31] at hF
        refine rx_iconst C dX2_letFirstTry_106 (0 : Int32) (by decide) ?_
        replace hF := rx_leE hF; obtain ⟨o_p_32, e_o_p_32, hF⟩ := hF
        refine rx_cv (rx_rSN C (w_put b_p.2.2.1 (by decide)) Y_X8_put S_X8_put m_X2_66 ⟨⟨rfl, rfl⟩, ⟨(Nat.le_of_ble_eq_true rfl), (Nat.le_of_ble_eq_true rfl)⟩, ⟨(Nat.le_of_ble_eq_true rfl), (Nat.le_of_ble_eq_true rfl)⟩⟩ rfl rfl (Nat.le_of_ble_eq_true rfl) dX2_letFirstTry_107) (fun hh n1 hpp => ?_)
        obtain ⟨c_p, ff, hn⟩ := b_p.wr5 e_o_p_32 hpp
        replace hn := Eq.symm hn
        subst hn
        replace b_p := c_p
        replace b_e := b_e.keep ff ⟨s_e_p, trivial⟩
        replace b_st := b_st.keep ff ⟨s_st_p, trivial⟩
        replace fr := rx_frt fr ff (fun a ha => ⟨ha.1, trivial⟩)
        refine rx_aload_n C dX2_letFirstTry_110 3 rfl ?_
        refine rx_getf C f_X2_27 dX2_letFirstTry_111 b_p.1 rfl ?_
        refine rx_iload_n C dX2_letFirstTry_114 2 rfl ?_
        refine rx_iconst C dX2_letFirstTry_115 (1 : Int32) (by decide) ?_
        replace hF := rx_leE hF; obtain ⟨o_p_33, e_o_p_33, hF⟩ := hF
        refine rx_cv (rx_rSN C (w_add b_p.2.2.2.2.2.2.1 (by decide)) Y_X8_add S_X8_add m_X2_160 ⟨⟨rfl, rfl⟩, ⟨(Nat.le_of_ble_eq_true rfl), (Nat.le_of_ble_eq_true rfl)⟩, ⟨(Nat.le_of_ble_eq_true rfl), (Nat.le_of_ble_eq_true rfl)⟩⟩ rfl rfl (Nat.le_of_ble_eq_true rfl) dX2_letFirstTry_116) (fun hh n1 hpp => ?_)
        obtain ⟨c_p, ff, hn⟩ := b_p.wr9 e_o_p_33 hpp
        replace hn := Eq.symm hn
        subst hn
        replace b_p := c_p
        replace b_e := b_e.keep ff ⟨s_e_p, trivial⟩
        replace b_st := b_st.keep ff ⟨s_st_p, trivial⟩
        replace fr := rx_frt fr ff (fun a ha => ⟨ha.1, trivial⟩)
        refine rx_aload_n C dX2_letFirstTry_119 3 rfl ?_
        refine rx_iload_n C dX2_letFirstTry_120 2 rfl ?_
        replace hF := rx_biE hF; obtain ⟨y34, e_y34, hF⟩ := hF
        refine rx_cv (rx_rV C (w_X2_countRoyalCoinsOf e_y34 b_p b_st (by omega)) Y_X2_countRoyalCoinsOf V_X2_countRoyalCoinsOf m_X2_163 (Or.inl ⟨_, _, _, _, b_p.1, rfl⟩) ⟨⟨rfl, rfl⟩, ⟨(Nat.le_of_ble_eq_true rfl), (Nat.le_of_ble_eq_true rfl)⟩, ⟨(Nat.le_of_ble_eq_true rfl), (Nat.le_of_ble_eq_true rfl)⟩⟩ rfl rfl (Nat.le_of_ble_eq_true rfl) dX2_letFirstTry_121) (fun hh n1 hpp => ?_)
        obtain ⟨hn, c_p, ff⟩ := hpp
        replace hn : n = n1 := Eq.symm hn
        subst hn
        replace b_p : bP k q g y34 hh := c_p
        clear c_p
        replace ff : rx_fr [(q, 10)] _ hh := ff
        replace b_e := b_e.keep ff ⟨s_e_p, trivial⟩
        replace b_st := b_st.keep ff ⟨s_st_p, trivial⟩
        replace fr := rx_frt fr ff (fun a ha => ⟨ha.1, trivial⟩)
        refine rx_aload_n C dX2_letFirstTry_124 3 rfl ?_
        refine rx_iload_n C dX2_letFirstTry_125 1 rfl ?_
        refine rx_aload_n C dX2_letFirstTry_126 3 rfl ?_
        refine rx_getf C f_X2_49 dX2_letFirstTry_127 b_p.1 rfl ?_
        refine rx_iload_n C dX2_letFirstTry_130 2 rfl ?_
        replace hF := rx_biE hF; obtain ⟨y35, e_y35, hF⟩ := hF
        refine rx_ci (rx_rVN C (w_X5_hasKing e_y35 b_st) Y_X5_hasKing V_X5_hasKing m_X2_80 (Or.inl ⟨_, _, _, _, b_st.1, rfl⟩) ⟨⟨rfl, rfl⟩, ⟨(Nat.le_of_ble_eq_true rfl), (Nat.le_of_ble_eq_true rfl)⟩, ⟨(Nat.le_of_ble_eq_true rfl), (Nat.le_of_ble_eq_true rfl)⟩⟩ rfl rfl (Nat.le_of_ble_eq_true rfl) dX2_letFirstTry_131) (fun r hh n1 hpp => ?_)
        obtain ⟨rfl, bo_y35, hu⟩ := hpp
        cases hu
        replace hF := rx_biE hF; obtain ⟨y36, e_y36, hF⟩ := hF
        refine rx_cv (rx_rV C (w_X2_learn e_y36 b_p b_st (by omega)) Y_X2_learn V_X2_learn m_X2_166 (Or.inl ⟨_, _, _, _, b_p.1, rfl⟩) ⟨⟨rfl, rfl⟩, ⟨(Nat.le_of_ble_eq_true rfl), (Nat.le_of_ble_eq_true rfl)⟩, ⟨(Nat.le_of_ble_eq_true rfl), (Nat.le_of_ble_eq_true rfl)⟩⟩ rfl rfl (Nat.le_of_ble_eq_true rfl) dX2_letFirstTry_134) (fun hh n1 hpp => ?_)
        obtain ⟨hn, c_p, ff⟩ := hpp
        replace hn : n = n1 := Eq.symm hn
        subst hn
        replace b_p : bP k q g y36 hh := c_p
        clear c_p
        replace ff : rx_fr [(q, 10)] _ hh := ff
        replace b_e := b_e.keep ff ⟨s_e_p, trivial⟩
        replace b_st := b_st.keep ff ⟨s_st_p, trivial⟩
        replace fr := rx_frt fr ff (fun a ha => ⟨ha.1, trivial⟩)
        refine rx_iconst C dX2_letFirstTry_137 (1 : Int32) (by decide) ?_
        obtain rfl := Option.some.inj hF
        exact rx_iret C dX2_letFirstTry_138 (Nat.le_refl _) (Nat.le_refl _) ⟨rfl, rfl, b_p, b_e, fr⟩
      · rw [if_pos c31] at hF
        refine rx_iconst C dX2_letFirstTry_102 (1 : Int32) (by decide) ?_
        refine rx_goto C dX2_letFirstTry_103 107 (by decide) ?_
        replace hF := rx_leE hF; obtain ⟨o_p_37, e_o_p_37, hF⟩ := hF
        refine rx_cv (rx_rSN C (w_put b_p.2.2.1 (by decide)) Y_X8_put S_X8_put m_X2_66 ⟨⟨rfl, rfl⟩, ⟨(Nat.le_of_ble_eq_true rfl), (Nat.le_of_ble_eq_true rfl)⟩, ⟨(Nat.le_of_ble_eq_true rfl), (Nat.le_of_ble_eq_true rfl)⟩⟩ rfl rfl (Nat.le_of_ble_eq_true rfl) dX2_letFirstTry_107) (fun hh n1 hpp => ?_)
        obtain ⟨c_p, ff, hn⟩ := b_p.wr5 e_o_p_37 hpp
        replace hn := Eq.symm hn
        subst hn
        replace b_p := c_p
        replace b_e := b_e.keep ff ⟨s_e_p, trivial⟩
        replace b_st := b_st.keep ff ⟨s_st_p, trivial⟩
        replace fr := rx_frt fr ff (fun a ha => ⟨ha.1, trivial⟩)
        refine rx_aload_n C dX2_letFirstTry_110 3 rfl ?_
        refine rx_getf C f_X2_27 dX2_letFirstTry_111 b_p.1 rfl ?_
        refine rx_iload_n C dX2_letFirstTry_114 2 rfl ?_
        refine rx_iconst C dX2_letFirstTry_115 (1 : Int32) (by decide) ?_
        replace hF := rx_leE hF; obtain ⟨o_p_38, e_o_p_38, hF⟩ := hF
        refine rx_cv (rx_rSN C (w_add b_p.2.2.2.2.2.2.1 (by decide)) Y_X8_add S_X8_add m_X2_160 ⟨⟨rfl, rfl⟩, ⟨(Nat.le_of_ble_eq_true rfl), (Nat.le_of_ble_eq_true rfl)⟩, ⟨(Nat.le_of_ble_eq_true rfl), (Nat.le_of_ble_eq_true rfl)⟩⟩ rfl rfl (Nat.le_of_ble_eq_true rfl) dX2_letFirstTry_116) (fun hh n1 hpp => ?_)
        obtain ⟨c_p, ff, hn⟩ := b_p.wr9 e_o_p_38 hpp
        replace hn := Eq.symm hn
        subst hn
        replace b_p := c_p
        replace b_e := b_e.keep ff ⟨s_e_p, trivial⟩
        replace b_st := b_st.keep ff ⟨s_st_p, trivial⟩
        replace fr := rx_frt fr ff (fun a ha => ⟨ha.1, trivial⟩)
        refine rx_aload_n C dX2_letFirstTry_119 3 rfl ?_
        refine rx_iload_n C dX2_letFirstTry_120 2 rfl ?_
        replace hF := rx_biE hF; obtain ⟨y39, e_y39, hF⟩ := hF
        refine rx_cv (rx_rV C (w_X2_countRoyalCoinsOf e_y39 b_p b_st (by omega)) Y_X2_countRoyalCoinsOf V_X2_countRoyalCoinsOf m_X2_163 (Or.inl ⟨_, _, _, _, b_p.1, rfl⟩) ⟨⟨rfl, rfl⟩, ⟨(Nat.le_of_ble_eq_true rfl), (Nat.le_of_ble_eq_true rfl)⟩, ⟨(Nat.le_of_ble_eq_true rfl), (Nat.le_of_ble_eq_true rfl)⟩⟩ rfl rfl (Nat.le_of_ble_eq_true rfl) dX2_letFirstTry_121) (fun hh n1 hpp => ?_)
        obtain ⟨hn, c_p, ff⟩ := hpp
        replace hn : n = n1 := Eq.symm hn
        subst hn
        replace b_p : bP k q g y39 hh := c_p
        clear c_p
        replace ff : rx_fr [(q, 10)] _ hh := ff
        replace b_e := b_e.keep ff ⟨s_e_p, trivial⟩
        replace b_st := b_st.keep ff ⟨s_st_p, trivial⟩
        replace fr := rx_frt fr ff (fun a ha => ⟨ha.1, trivial⟩)
        refine rx_aload_n C dX2_letFirstTry_124 3 rfl ?_
        refine rx_iload_n C dX2_letFirstTry_125 1 rfl ?_
        refine rx_aload_n C dX2_letFirstTry_126 3 rfl ?_
        refine rx_getf C f_X2_49 dX2_letFirstTry_127 b_p.1 rfl ?_
        refine rx_iload_n C dX2_letFirstTry_130 2 rfl ?_
        replace hF := rx_biE hF; obtain ⟨y40, e_y40, hF⟩ := hF
        refine rx_ci (rx_rVN C (w_X5_hasKing e_y40 b_st) Y_X5_hasKing V_X5_hasKing m_X2_80 (Or.inl ⟨_, _, _, _, b_st.1, rfl⟩) ⟨⟨rfl, rfl⟩, ⟨(Nat.le_of_ble_eq_true rfl), (Nat.le_of_ble_eq_true rfl)⟩, ⟨(Nat.le_of_ble_eq_true rfl), (Nat.le_of_ble_eq_true rfl)⟩⟩ rfl rfl (Nat.le_of_ble_eq_true rfl) dX2_letFirstTry_131) (fun r hh n1 hpp => ?_)
        obtain ⟨rfl, bo_y40, hu⟩ := hpp
        cases hu
        replace hF := rx_biE hF; obtain ⟨y41, e_y41, hF⟩ := hF
        refine rx_cv (rx_rV C (w_X2_learn e_y41 b_p b_st (by omega)) Y_X2_learn V_X2_learn m_X2_166 (Or.inl ⟨_, _, _, _, b_p.1, rfl⟩) ⟨⟨rfl, rfl⟩, ⟨(Nat.le_of_ble_eq_true rfl), (Nat.le_of_ble_eq_true rfl)⟩, ⟨(Nat.le_of_ble_eq_true rfl), (Nat.le_of_ble_eq_true rfl)⟩⟩ rfl rfl (Nat.le_of_ble_eq_true rfl) dX2_letFirstTry_134) (fun hh n1 hpp => ?_)
        obtain ⟨hn, c_p, ff⟩ := hpp
        replace hn : n = n1 := Eq.symm hn
        subst hn
        replace b_p : bP k q g y41 hh := c_p
        clear c_p
        replace ff : rx_fr [(q, 10)] _ hh := ff
        replace b_e := b_e.keep ff ⟨s_e_p, trivial⟩
        replace b_st := b_st.keep ff ⟨s_st_p, trivial⟩
        replace fr := rx_frt fr ff (fun a ha => ⟨ha.1, trivial⟩)
        refine rx_iconst C dX2_letFirstTry_137 (1 : Int32) (by decide) ?_
        obtain rfl := Option.some.inj hF
        exact rx_iret C dX2_letFirstTry_138 (Nat.le_refl _) (Nat.le_refl _) ⟨rfl, rfl, b_p, b_e, fr⟩
    · rw [if_neg c27] at hF
      refine rx_iconst C dX2_letFirstTry_66 (0 : Int32) (by decide) ?_
      obtain rfl := Option.some.inj hF
      exact rx_iret C dX2_letFirstTry_67 (Nat.le_refl _) (Nat.le_refl _) ⟨rfl, rfl, b_p, b_e, fr⟩
def F_X2_passTurn_71_e (ost : ob) (x3 : Int32) : Nat → ob → ob → ob → Int32 → Int32 → Int32 → Option (Int32 × Int32 × Int32 × ob × ob × ob)
  | 0, _, _, _, _, _, _ => none
  | fu + 1, op, ow, oe, x2, x4, x5 => if (10 : Int32) ≤ x5 then (some (x2, x4, x5, op, ow, oe)) else (if x4 ≤ (0 : Int32) then (some (x2, x4, x5, op, ow, oe)) else (if (oe.1 2) ≤ (0 : Int32) then (some (x2, x4, x5, op, ow, oe)) else ((F_X2_letFirstTry_e op oe ost).bind fun y14 => rx_le ((x4 - y14.1)) fun v15 => rx_le ((x2 + y14.1)) fun v16 => F_X2_passTurn_71_e ost x3 fu y14.2.1 ow y14.2.2 v16 v15 ((x5 + 1)))))
def F_X2_passTurn_71_e_2 (ost : ob) (x3 : Int32) : Nat → ob → ob → ob → Int32 → Int32 → Int32 → Option (Int32 × Int32 × Int32 × ob × ob × ob)
  | 0, _, _, _, _, _, _ => none
  | fu + 1, op, ow, oe, x2, x4, x5 => if (10 : Int32) ≤ x5 then (some (x2, x4, x5, op, ow, oe)) else (if x4 ≤ (0 : Int32) then (some (x2, x4, x5, op, ow, oe)) else (if (oe.1 2) ≤ (0 : Int32) then (some (x2, x4, x5, op, ow, oe)) else ((F_X2_letFirstTry_e op oe ost).bind fun y24 => rx_le ((x4 - y24.1)) fun v25 => rx_le ((x2 + y24.1)) fun v26 => F_X2_passTurn_71_e_2 ost x3 fu y24.2.1 ow y24.2.2 v26 v25 ((x5 + 1)))))
def F_X2_passTurn_25_e (ost : ob) : Nat → ob → ob → ob → Int32 → Int32 → Option (Int32 × Int32 × ob × ob × ob)
  | 0, _, _, _, _, _ => none
  | fu + 1, op, ow, oe, x2, x3 => if (ost.1 5) ≤ x3 then (some (x2, x3, op, ow, oe)) else ((F_X5_opens ost x3 ((op.1 1))).bind fun y7 => if y7 = (0 : Int32) then ((F_X2_passTurn_71_e ost x3 100000 op ow oe x2 ((0 : Int32)) ((0 : Int32))).bind fun zl17 => F_X2_passTurn_25_e ost fu zl17.2.2.2.1 zl17.2.2.2.2.1 zl17.2.2.2.2.2 zl17.1 ((x3 + 1))) else (rx_le ((rx_at 4 (ost.2 13) x3)) fun v18 => (F_X2_passTurn_71_e_2 ost x3 100000 op ow oe x2 v18 ((0 : Int32))).bind fun zl27 => F_X2_passTurn_25_e ost fu zl27.2.2.2.1 zl27.2.2.2.2.1 zl27.2.2.2.2.2 zl27.1 ((x3 + 1))))
def F_X2_passTurn_71_w (ost : ob) (x3 : Int32) : Nat → ob → ob → ob → Int32 → Int32 → Int32 → Option (Int32 × Int32 × Int32 × ob × ob × ob)
  | 0, _, _, _, _, _, _ => none
  | fu + 1, op, ow, oe, x2, x4, x5 => if (10 : Int32) ≤ x5 then (some (x2, x4, x5, op, ow, oe)) else (if x4 ≤ (0 : Int32) then (some (x2, x4, x5, op, ow, oe)) else (if (ow.1 2) ≤ (0 : Int32) then (some (x2, x4, x5, op, ow, oe)) else ((F_X2_letFirstTry_w op ow ost).bind fun y40 => rx_le ((x4 - y40.1)) fun v41 => rx_le ((x2 + y40.1)) fun v42 => F_X2_passTurn_71_w ost x3 fu y40.2.1 y40.2.2 oe v42 v41 ((x5 + 1)))))
def F_X2_passTurn_71_w_2 (ost : ob) (x3 : Int32) : Nat → ob → ob → ob → Int32 → Int32 → Int32 → Option (Int32 × Int32 × Int32 × ob × ob × ob)
  | 0, _, _, _, _, _, _ => none
  | fu + 1, op, ow, oe, x2, x4, x5 => if (10 : Int32) ≤ x5 then (some (x2, x4, x5, op, ow, oe)) else (if x4 ≤ (0 : Int32) then (some (x2, x4, x5, op, ow, oe)) else (if (ow.1 2) ≤ (0 : Int32) then (some (x2, x4, x5, op, ow, oe)) else ((F_X2_letFirstTry_w op ow ost).bind fun y50 => rx_le ((x4 - y50.1)) fun v51 => rx_le ((x2 + y50.1)) fun v52 => F_X2_passTurn_71_w_2 ost x3 fu y50.2.1 y50.2.2 oe v52 v51 ((x5 + 1)))))
def F_X2_passTurn_25_w (ost : ob) : Nat → ob → ob → ob → Int32 → Int32 → Option (Int32 × Int32 × ob × ob × ob)
  | 0, _, _, _, _, _ => none
  | fu + 1, op, ow, oe, x2, x3 => if (ost.1 5) ≤ x3 then (some (x2, x3, op, ow, oe)) else ((F_X5_opens ost x3 ((op.1 1))).bind fun y33 => if y33 = (0 : Int32) then ((F_X2_passTurn_71_w ost x3 100000 op ow oe x2 ((0 : Int32)) ((0 : Int32))).bind fun zl43 => F_X2_passTurn_25_w ost fu zl43.2.2.2.1 zl43.2.2.2.2.1 zl43.2.2.2.2.2 zl43.1 ((x3 + 1))) else (rx_le ((rx_at 4 (ost.2 13) x3)) fun v44 => (F_X2_passTurn_71_w_2 ost x3 100000 op ow oe x2 v44 ((0 : Int32))).bind fun zl53 => F_X2_passTurn_25_w ost fu zl53.2.2.2.1 zl53.2.2.2.2.1 zl53.2.2.2.2.2 zl53.1 ((x3 + 1))))
def F_X2_passTurn (op : ob) (ow : ob) (oe : ob) (ost : ob) : Option (Int32 × ob × ob × ob) := if (op.1 1) ≤ (9999 : Int32) then ((F_X2_departureBank op).bind fun y2 => if y2 = (1 : Int32) then ((F_X2_passTurn_25_e ost 100000 op ow oe ((0 : Int32)) ((0 : Int32))).bind fun zl28 => rx_le (upd zl28.2.2.1.1 1 (((zl28.2.2.1.1 1) + (1 : Int32))), zl28.2.2.1.2) fun o_p_29 => some (zl28.1, o_p_29, zl28.2.2.2.1, zl28.2.2.2.2)) else ((F_X2_passTurn_25_w ost 100000 op ow oe ((0 : Int32)) ((0 : Int32))).bind fun zl54 => rx_le (upd zl54.2.2.1.1 1 (((zl54.2.2.1.1 1) + (1 : Int32))), zl54.2.2.1.2) fun o_p_55 => some (zl54.1, o_p_55, zl54.2.2.2.1, zl54.2.2.2.2))) else (some ((0 : Int32), op, ow, oe))
set_option maxRecDepth 100000 in
set_option maxHeartbeats 4000000 in
theorem w_X2_passTurn {q g : Nat} {op : ob} {ow : ob} {oe : ob} {ost : ob} {y : Int32 × ob × ob × ob} (hF : F_X2_passTurn op ow oe ost = some y) (b_p : bP k q g op h) (b_w : bQ k (q + 10) ow h) (b_e : bQ k (q + 13) oe h) (b_st : bS k g ost h) (hd0 : q + 16 ≤ g ∨ g + 9 ≤ q) : Met l yX2_passTurn (rx_ws yX2_passTurn cX2_passTurn 7 (some .int)) (rx_rm 3 68) (va_Pc [.ref q] (rx_G G k h n)) (va_Qi (fun r u => y.1 = r ∧ u.2 = n ∧ bP k q g y.2.1 u.1 ∧ bQ k (q + 10) y.2.2.1 u.1 ∧ bQ k (q + 13) y.2.2.2 u.1 ∧ rx_fr [(q, 10), (q + 10, 3), (q + 13, 3)] h u.1) (rx_B G k) (rx_A k)) 0 0 (rx_A k) := by
  have s_w_p : q + 10 + 3 ≤ q ∨ q + 10 ≤ q + 10 := by omega
  have s_w_e : q + 10 + 3 ≤ q + 13 ∨ q + 13 + 3 ≤ q + 10 := by omega
  have s_st_p : g + 9 ≤ q ∨ q + 10 ≤ g := by omega
  have s_st_e : g + 9 ≤ q + 13 ∨ q + 13 + 3 ≤ g := by omega
  have s_st_w : g + 9 ≤ q + 10 ∨ q + 10 + 3 ≤ g := by omega
  have s_e_p : q + 13 + 3 ≤ q ∨ q + 10 ≤ q + 13 := by omega
  have s_e_w : q + 13 + 3 ≤ q + 10 ∨ q + 10 + 3 ≤ q + 13 := by omega
  refine rx_start [(0, .ref q)] rfl (Nat.le_of_ble_eq_true rfl) (by decide) rfl (fun P9 E9 S9 M9 A9 B9 me9 c9 C hname => ?_)
  unfold F_X2_passTurn at hF
  have fr : rx_fr [(q, 10), (q + 10, 3), (q + 13, 3)] h h := rx_fr0
  have b0_p := b_p
  have b0_w := b_w
  have b0_e := b_e
  have b0_st := b_st
  refine rx_aload_n C dX2_passTurn_0 0 rfl ?_
  refine rx_getf C f_X2_53 dX2_passTurn_1 b_p.1 rfl ?_
  refine rx_sipush C dX2_passTurn_4 (9999 : Int32) (by decide) ?_
  refine rx_icmp_le C dX2_passTurn_7 12 (by decide) (fun c1 => ?_) (fun c1 => ?_)
  · rw [if_pos c1] at hF
    refine rx_aload_n C dX2_passTurn_12 0 rfl ?_
    refine rx_aload_n C dX2_passTurn_13 0 rfl ?_
    replace hF := rx_biE hF; obtain ⟨y2, e_y2, hF⟩ := hF
    refine rx_ci (rx_rV C (w_X2_departureBank e_y2 b_p) Y_X2_departureBank V_X2_departureBank m_X2_136 (Or.inl ⟨_, _, _, _, b_p.1, rfl⟩) ⟨⟨rfl, rfl⟩, ⟨(Nat.le_of_ble_eq_true rfl), (Nat.le_of_ble_eq_true rfl)⟩, ⟨(Nat.le_of_ble_eq_true rfl), (Nat.le_of_ble_eq_true rfl)⟩⟩ rfl rfl (Nat.le_of_ble_eq_true rfl) dX2_passTurn_14) (fun r hh n1 hpp => ?_)
    obtain ⟨rfl, hu⟩ := hpp
    cases hu
    refine rx_cq (rx_rV C (w_queueOn b_p.1) Y_X2_queueOn V_X2_queueOn m_X2_122 (Or.inl ⟨_, _, _, _, b_p.1, rfl⟩) ⟨⟨rfl, rfl⟩, ⟨(Nat.le_of_ble_eq_true rfl), (Nat.le_of_ble_eq_true rfl)⟩, ⟨(Nat.le_of_ble_eq_true rfl), (Nat.le_of_ble_eq_true rfl)⟩⟩ rfl rfl (Nat.le_of_ble_eq_true rfl) dX2_passTurn_17) (fun r hh n1 hpp => ?_)
    obtain ⟨rfl, hu⟩ := hpp
    cases hu
    by_cases c3 : y2 = (1 : Int32)
    · rw [if_pos c3] at hF ⊢
      show rx_W _ _ _ _ _ _ _ _ _ _ _ _ _ _ _ _ _ _ _ _ (.ref (q + 13) :: _)
      refine rx_astore_n C dX2_passTurn_20 (by decide) [(1, .ref (q + 13)), (0, .ref q)] rfl ?_
      refine rx_iconst C dX2_passTurn_21 (0 : Int32) (by decide) ?_
      refine rx_istore_n C dX2_passTurn_22 (by decide) [(2, .int ((0 : Int32))), (1, .ref (q + 13)), (0, .ref q)] rfl ?_
      refine rx_iconst C dX2_passTurn_23 (0 : Int32) (by decide) ?_
      refine rx_istore_n C dX2_passTurn_24 (by decide) [(3, .int ((0 : Int32))), (2, .int ((0 : Int32))), (1, .ref (q + 13)), (0, .ref q)] rfl ?_
      have loop5 : ∀ (fu : Nat) (zz : Int32 × Int32 × ob × ob × ob) (op : ob) (ow : ob) (oe : ob) (x2 : Int32) (x3 : Int32) (hh : hp), F_X2_passTurn_25_e ost fu op ow oe x2 x3 = some zz → bP k q g op hh → bQ k (q + 10) ow hh → bQ k (q + 13) oe hh → bS k g ost hh → rx_fr [(q, 10), (q + 10, 3), (q + 13, 3)] h hh → (∀ hh : hp, bP k q g zz.2.2.1 hh → bQ k (q + 10) zz.2.2.2.1 hh → bQ k (q + 13) zz.2.2.2.2 hh → rx_fr [(q, 10), (q + 10, 3), (q + 13, 3)] h hh → rx_W P9 l E9 (rx_rm 3 68) S9 M9 A9 B9 me9 c9 (MQ B9 (va_Qi (fun r u => y.1 = r ∧ u.2 = n ∧ bP k q g y.2.1 u.1 ∧ bQ k (q + 10) y.2.2.1 u.1 ∧ bQ k (q + 13) y.2.2.2 u.1 ∧ rx_fr [(q, 10), (q + 10, 3), (q + 13, 3)] h u.1) (rx_B G k) (rx_A k)) A9 S9 0 0 (rx_A k)) G k 7 0 0 hh n 121 [(0, .ref q), (1, .ref (q + 13)), (2, .int zz.1), (3, .int zz.2.1)] []) → rx_W P9 l E9 (rx_rm 3 68) S9 M9 A9 B9 me9 c9 (MQ B9 (va_Qi (fun r u => y.1 = r ∧ u.2 = n ∧ bP k q g y.2.1 u.1 ∧ bQ k (q + 10) y.2.2.1 u.1 ∧ bQ k (q + 13) y.2.2.2 u.1 ∧ rx_fr [(q, 10), (q + 10, 3), (q + 13, 3)] h u.1) (rx_B G k) (rx_A k)) A9 S9 0 0 (rx_A k)) G k 7 0 0 hh n 25 [(0, .ref q), (1, .ref (q + 13)), (2, .int x2), (3, .int x3)] [] := by
        intro fu
        induction fu with
        | zero => intro zz op ow oe x2 x3 hh hF b_p b_w b_e b_st fr KK; exact absurd hF (by simp [F_X2_passTurn_25_e])
        | succ fu ih_loop5 =>
          intro zz op ow oe x2 x3 hh hF b_p b_w b_e b_st fr KK
          unfold F_X2_passTurn_25_e at hF
          refine rx_iload_n C dX2_passTurn_25 3 rfl ?_
          refine rx_aload_n C dX2_passTurn_26 0 rfl ?_
          refine rx_getf C f_X2_49 dX2_passTurn_27 b_p.1 rfl ?_
          refine rx_getfN C f_X2_139 dX2_passTurn_30 b_st.1 rfl ?_
          refine rx_icmp_ge C dX2_passTurn_33 121 (by decide) (fun c6 => ?_) (fun c6 => ?_)
          · rw [if_pos c6] at hF
            obtain rfl := Option.some.inj hF
            refine rx_sub [0, 1, 2, 3] rfl ?_
            exact KK _ b_p b_w b_e fr
          · rw [if_neg c6] at hF
            refine rx_aload_n C dX2_passTurn_36 0 rfl ?_
            refine rx_getf C f_X2_49 dX2_passTurn_37 b_p.1 rfl ?_
            refine rx_iload_n C dX2_passTurn_40 3 rfl ?_
            refine rx_aload_n C dX2_passTurn_41 0 rfl ?_
            refine rx_getf C f_X2_53 dX2_passTurn_42 b_p.1 rfl ?_
            replace hF := rx_biE hF; obtain ⟨y7, e_y7, hF⟩ := hF
            refine rx_ci (rx_rVN C (w_X5_opens e_y7 b_st) Y_X5_opens V_X5_opens m_X2_142 (Or.inl ⟨_, _, _, _, b_st.1, rfl⟩) ⟨⟨rfl, rfl⟩, ⟨(Nat.le_of_ble_eq_true rfl), (Nat.le_of_ble_eq_true rfl)⟩, ⟨(Nat.le_of_ble_eq_true rfl), (Nat.le_of_ble_eq_true rfl)⟩⟩ rfl rfl (Nat.le_of_ble_eq_true rfl) dX2_passTurn_45) (fun r hh n1 hpp => ?_)
            obtain ⟨rfl, bo_y7, hu⟩ := hpp
            cases hu
            refine rx_if_eq C dX2_passTurn_48 65 (by decide) (fun c8 => ?_) (fun c8 => ?_)
            · rw [if_pos c8] at hF
              refine rx_iconst C dX2_passTurn_65 (0 : Int32) (by decide) ?_
              refine rx_istore C dX2_passTurn_66 (by decide) [(4, .int ((0 : Int32))), (0, .ref q), (1, .ref (q + 13)), (2, .int x2), (3, .int x3)] rfl ?_
              refine rx_iconst C dX2_passTurn_68 (0 : Int32) (by decide) ?_
              refine rx_istore C dX2_passTurn_69 (by decide) [(5, .int ((0 : Int32))), (4, .int ((0 : Int32))), (0, .ref q), (1, .ref (q + 13)), (2, .int x2), (3, .int x3)] rfl ?_
              have loop10 : ∀ (fu : Nat) (zz : Int32 × Int32 × Int32 × ob × ob × ob) (op : ob) (ow : ob) (oe : ob) (x2 : Int32) (x4 : Int32) (x5 : Int32) (hh : hp), F_X2_passTurn_71_e ost x3 fu op ow oe x2 x4 x5 = some zz → bP k q g op hh → bQ k (q + 10) ow hh → bQ k (q + 13) oe hh → bS k g ost hh → rx_fr [(q, 10), (q + 10, 3), (q + 13, 3)] h hh → (∀ hh : hp, bP k q g zz.2.2.2.1 hh → bQ k (q + 10) zz.2.2.2.2.1 hh → bQ k (q + 13) zz.2.2.2.2.2 hh → rx_fr [(q, 10), (q + 10, 3), (q + 13, 3)] h hh → rx_W P9 l E9 (rx_rm 3 68) S9 M9 A9 B9 me9 c9 (MQ B9 (va_Qi (fun r u => y.1 = r ∧ u.2 = n ∧ bP k q g y.2.1 u.1 ∧ bQ k (q + 10) y.2.2.1 u.1 ∧ bQ k (q + 13) y.2.2.2 u.1 ∧ rx_fr [(q, 10), (q + 10, 3), (q + 13, 3)] h u.1) (rx_B G k) (rx_A k)) A9 S9 0 0 (rx_A k)) G k 7 0 0 hh n 115 [(0, .ref q), (1, .ref (q + 13)), (2, .int zz.1), (3, .int x3), (4, .int zz.2.1), (5, .int zz.2.2.1)] []) → rx_W P9 l E9 (rx_rm 3 68) S9 M9 A9 B9 me9 c9 (MQ B9 (va_Qi (fun r u => y.1 = r ∧ u.2 = n ∧ bP k q g y.2.1 u.1 ∧ bQ k (q + 10) y.2.2.1 u.1 ∧ bQ k (q + 13) y.2.2.2 u.1 ∧ rx_fr [(q, 10), (q + 10, 3), (q + 13, 3)] h u.1) (rx_B G k) (rx_A k)) A9 S9 0 0 (rx_A k)) G k 7 0 0 hh n 71 [(0, .ref q), (1, .ref (q + 13)), (2, .int x2), (3, .int x3), (4, .int x4), (5, .int x5)] [] := by
                intro fu
                induction fu with
                | zero => intro zz op ow oe x2 x4 x5 hh hF b_p b_w b_e b_st fr KK; exact absurd hF (by simp [F_X2_passTurn_71_e])
                | succ fu ih_loop10 =>
                  intro zz op ow oe x2 x4 x5 hh hF b_p b_w b_e b_st fr KK
                  unfold F_X2_passTurn_71_e at hF
                  refine rx_iload C dX2_passTurn_71 5 rfl ?_
                  refine rx_bipush C dX2_passTurn_73 (10 : Int32) (by decide) ?_
                  refine rx_icmp_ge C dX2_passTurn_75 115 (by decide) (fun c11 => ?_) (fun c11 => ?_)
                  · rw [if_pos c11] at hF
                    obtain rfl := Option.some.inj hF
                    refine rx_sub [0, 1, 2, 3, 4, 5] rfl ?_
                    exact KK _ b_p b_w b_e fr
                  · rw [if_neg c11] at hF
                    refine rx_iload C dX2_passTurn_78 4 rfl ?_
                    refine rx_if_le C dX2_passTurn_80 115 (by decide) (fun c12 => ?_) (fun c12 => ?_)
                    · rw [if_pos c12] at hF
                      obtain rfl := Option.some.inj hF
                      refine rx_sub [0, 1, 2, 3, 4, 5] rfl ?_
                      exact KK _ b_p b_w b_e fr
                    · rw [if_neg c12] at hF
                      refine rx_aload_n C dX2_passTurn_83 1 rfl ?_
                      refine rx_getfN C f_X2_70 dX2_passTurn_84 b_e.1 rfl ?_
                      refine rx_if_le C dX2_passTurn_87 115 (by decide) (fun c13 => ?_) (fun c13 => ?_)
                      · rw [if_pos c13] at hF
                        obtain rfl := Option.some.inj hF
                        refine rx_sub [0, 1, 2, 3, 4, 5] rfl ?_
                        exact KK _ b_p b_w b_e fr
                      · rw [if_neg c13] at hF
                        refine rx_aload_n C dX2_passTurn_90 0 rfl ?_
                        refine rx_aload_n C dX2_passTurn_91 1 rfl ?_
                        replace hF := rx_biE hF; obtain ⟨y14, e_y14, hF⟩ := hF
                        refine rx_ci (rx_rV C (w_X2_letFirstTry_e e_y14 b_p b_e b_st (by omega)) Y_X2_letFirstTry V_X2_letFirstTry m_X2_149 (Or.inl ⟨_, _, _, _, b_p.1, rfl⟩) ⟨⟨rfl, rfl⟩, ⟨(Nat.le_of_ble_eq_true rfl), (Nat.le_of_ble_eq_true rfl)⟩, ⟨(Nat.le_of_ble_eq_true rfl), (Nat.le_of_ble_eq_true rfl)⟩⟩ rfl rfl (Nat.le_of_ble_eq_true rfl) dX2_passTurn_92) (fun r hh n1 hpp => ?_)
                        obtain ⟨rfl, hn, c_p, c_e, ff⟩ := hpp
                        replace hn : n = n1 := Eq.symm hn
                        subst hn
                        replace b_p : bP k q g y14.2.1 hh := c_p
                        clear c_p
                        replace b_e : bQ k (q + 13) y14.2.2 hh := c_e
                        clear c_e
                        replace ff : rx_fr [(q, 10), (q + 13, 3)] _ hh := ff
                        replace b_w := b_w.keep ff ⟨s_w_p, s_w_e, trivial⟩
                        replace b_st := b_st.keep ff ⟨s_st_p, s_st_e, trivial⟩
                        replace fr := rx_frt fr ff (fun a ha => ⟨ha.1, ha.2.2.1, trivial⟩)
                        refine rx_istore C dX2_passTurn_95 (by decide) [(6, .int y14.1), (0, .ref q), (1, .ref (q + 13)), (2, .int x2), (3, .int x3), (4, .int x4), (5, .int x5)] rfl ?_
                        refine rx_iload C dX2_passTurn_97 5 rfl ?_
                        refine rx_iload C dX2_passTurn_99 0 rfl ?_
                        refine rx_isub C dX2_passTurn_101 ?_
                        replace hF := rx_leE hF; obtain ⟨v15, e_v15, hF⟩ := hF
                        rw [e_v15]
                        refine rx_istore C dX2_passTurn_102 (by decide) [(4, .int v15), (6, .int y14.1), (0, .ref q), (1, .ref (q + 13)), (2, .int x2), (3, .int x3), (5, .int x5)] rfl ?_
                        refine rx_iload_n C dX2_passTurn_104 4 rfl ?_
                        refine rx_iload C dX2_passTurn_105 1 rfl ?_
                        refine rx_iadd C dX2_passTurn_107 ?_
                        replace hF := rx_leE hF; obtain ⟨v16, e_v16, hF⟩ := hF
                        rw [e_v16]
                        refine rx_istore_n C dX2_passTurn_108 (by decide) [(2, .int v16), (4, .int v15), (6, .int y14.1), (0, .ref q), (1, .ref (q + 13)), (3, .int x3), (5, .int x5)] rfl ?_
                        refine rx_iinc C dX2_passTurn_109 6 rfl (x5 + 1) rfl (by decide) [(5, .int ((x5 + 1))), (2, .int v16), (4, .int v15), (6, .int y14.1), (0, .ref q), (1, .ref (q + 13)), (3, .int x3)] rfl ?_
                        refine rx_goto C dX2_passTurn_112 71 (by decide) ?_
                        refine rx_sub [4, 5, 1, 6, 2, 0] rfl ?_
                        exact ih_loop10 _ _ _ _ _ _ _ _ hF b_p b_w b_e b_st fr KK
              refine rx_sub [2, 3, 4, 5, 1, 0] rfl ?_
              replace hF := rx_biE hF; obtain ⟨zl17, e_zl17, hF⟩ := hF
              refine loop10 _ zl17 _ _ _ _ _ _ _ e_zl17 b_p b_w b_e b_st fr (fun hh b_p b_w b_e fr => ?_)
              have b_st := b0_st.keep fr ⟨s_st_p, s_st_w, s_st_e, trivial⟩
              refine rx_iinc C dX2_passTurn_115 3 rfl (x3 + 1) rfl (by decide) [(3, .int ((x3 + 1))), (0, .ref q), (1, .ref (q + 13)), (2, .int zl17.1), (4, .int zl17.2.1), (5, .int zl17.2.2.1)] rfl ?_
              refine rx_goto C dX2_passTurn_118 25 (by decide) ?_
              refine rx_sub [1, 2, 3, 0] rfl ?_
              exact ih_loop5 _ _ _ _ _ _ _ hF b_p b_w b_e b_st fr KK
            · rw [if_neg c8] at hF
              refine rx_aload_n C dX2_passTurn_51 0 rfl ?_
              refine rx_getf C f_X2_49 dX2_passTurn_52 b_p.1 rfl ?_
              refine rx_getfN C f_X2_146 dX2_passTurn_55 b_st.1 rfl ?_
              refine rx_iload_n C dX2_passTurn_58 3 rfl ?_
              refine rx_ci (rx_rSN C (w_at b_st.2.2.2.2.2.2.2.2 (by decide)) Y_X8_at S_X8_at m_X2_91 ⟨⟨rfl, rfl⟩, ⟨(Nat.le_of_ble_eq_true rfl), (Nat.le_of_ble_eq_true rfl)⟩, ⟨(Nat.le_of_ble_eq_true rfl), (Nat.le_of_ble_eq_true rfl)⟩⟩ rfl rfl (Nat.le_of_ble_eq_true rfl) dX2_passTurn_59) (fun r hh n1 hpp => ?_)
              obtain ⟨rfl, hu⟩ := hpp
              cases hu
              refine rx_goto C dX2_passTurn_62 66 (by decide) ?_
              replace hF := rx_leE hF; obtain ⟨v18, e_v18, hF⟩ := hF
              rw [e_v18]
              refine rx_istore C dX2_passTurn_66 (by decide) [(4, .int v18), (0, .ref q), (1, .ref (q + 13)), (2, .int x2), (3, .int x3)] rfl ?_
              refine rx_iconst C dX2_passTurn_68 (0 : Int32) (by decide) ?_
              refine rx_istore C dX2_passTurn_69 (by decide) [(5, .int ((0 : Int32))), (4, .int v18), (0, .ref q), (1, .ref (q + 13)), (2, .int x2), (3, .int x3)] rfl ?_
              have loop20 : ∀ (fu : Nat) (zz : Int32 × Int32 × Int32 × ob × ob × ob) (op : ob) (ow : ob) (oe : ob) (x2 : Int32) (x4 : Int32) (x5 : Int32) (hh : hp), F_X2_passTurn_71_e_2 ost x3 fu op ow oe x2 x4 x5 = some zz → bP k q g op hh → bQ k (q + 10) ow hh → bQ k (q + 13) oe hh → bS k g ost hh → rx_fr [(q, 10), (q + 10, 3), (q + 13, 3)] h hh → (∀ hh : hp, bP k q g zz.2.2.2.1 hh → bQ k (q + 10) zz.2.2.2.2.1 hh → bQ k (q + 13) zz.2.2.2.2.2 hh → rx_fr [(q, 10), (q + 10, 3), (q + 13, 3)] h hh → rx_W P9 l E9 (rx_rm 3 68) S9 M9 A9 B9 me9 c9 (MQ B9 (va_Qi (fun r u => y.1 = r ∧ u.2 = n ∧ bP k q g y.2.1 u.1 ∧ bQ k (q + 10) y.2.2.1 u.1 ∧ bQ k (q + 13) y.2.2.2 u.1 ∧ rx_fr [(q, 10), (q + 10, 3), (q + 13, 3)] h u.1) (rx_B G k) (rx_A k)) A9 S9 0 0 (rx_A k)) G k 7 0 0 hh n 115 [(0, .ref q), (1, .ref (q + 13)), (2, .int zz.1), (3, .int x3), (4, .int zz.2.1), (5, .int zz.2.2.1)] []) → rx_W P9 l E9 (rx_rm 3 68) S9 M9 A9 B9 me9 c9 (MQ B9 (va_Qi (fun r u => y.1 = r ∧ u.2 = n ∧ bP k q g y.2.1 u.1 ∧ bQ k (q + 10) y.2.2.1 u.1 ∧ bQ k (q + 13) y.2.2.2 u.1 ∧ rx_fr [(q, 10), (q + 10, 3), (q + 13, 3)] h u.1) (rx_B G k) (rx_A k)) A9 S9 0 0 (rx_A k)) G k 7 0 0 hh n 71 [(0, .ref q), (1, .ref (q + 13)), (2, .int x2), (3, .int x3), (4, .int x4), (5, .int x5)] [] := by
                intro fu
                induction fu with
                | zero => intro zz op ow oe x2 x4 x5 hh hF b_p b_w b_e b_st fr KK; exact absurd hF (by simp [F_X2_passTurn_71_e_2])
                | succ fu ih_loop20 =>
                  intro zz op ow oe x2 x4 x5 hh hF b_p b_w b_e b_st fr KK
                  unfold F_X2_passTurn_71_e_2 at hF
                  refine rx_iload C dX2_passTurn_71 5 rfl ?_
                  refine rx_bipush C dX2_passTurn_73 (10 : Int32) (by decide) ?_
                  refine rx_icmp_ge C dX2_passTurn_75 115 (by decide) (fun c21 => ?_) (fun c21 => ?_)
                  · rw [if_pos c21] at hF
                    obtain rfl := Option.some.inj hF
                    refine rx_sub [0, 1, 2, 3, 4, 5] rfl ?_
                    exact KK _ b_p b_w b_e fr
                  · rw [if_neg c21] at hF
                    refine rx_iload C dX2_passTurn_78 4 rfl ?_
                    refine rx_if_le C dX2_passTurn_80 115 (by decide) (fun c22 => ?_) (fun c22 => ?_)
                    · rw [if_pos c22] at hF
                      obtain rfl := Option.some.inj hF
                      refine rx_sub [0, 1, 2, 3, 4, 5] rfl ?_
                      exact KK _ b_p b_w b_e fr
                    · rw [if_neg c22] at hF
                      refine rx_aload_n C dX2_passTurn_83 1 rfl ?_
                      refine rx_getfN C f_X2_70 dX2_passTurn_84 b_e.1 rfl ?_
                      refine rx_if_le C dX2_passTurn_87 115 (by decide) (fun c23 => ?_) (fun c23 => ?_)
                      · rw [if_pos c23] at hF
                        obtain rfl := Option.some.inj hF
                        refine rx_sub [0, 1, 2, 3, 4, 5] rfl ?_
                        exact KK _ b_p b_w b_e fr
                      · rw [if_neg c23] at hF
                        refine rx_aload_n C dX2_passTurn_90 0 rfl ?_
                        refine rx_aload_n C dX2_passTurn_91 1 rfl ?_
                        replace hF := rx_biE hF; obtain ⟨y24, e_y24, hF⟩ := hF
                        refine rx_ci (rx_rV C (w_X2_letFirstTry_e e_y24 b_p b_e b_st (by omega)) Y_X2_letFirstTry V_X2_letFirstTry m_X2_149 (Or.inl ⟨_, _, _, _, b_p.1, rfl⟩) ⟨⟨rfl, rfl⟩, ⟨(Nat.le_of_ble_eq_true rfl), (Nat.le_of_ble_eq_true rfl)⟩, ⟨(Nat.le_of_ble_eq_true rfl), (Nat.le_of_ble_eq_true rfl)⟩⟩ rfl rfl (Nat.le_of_ble_eq_true rfl) dX2_passTurn_92) (fun r hh n1 hpp => ?_)
                        obtain ⟨rfl, hn, c_p, c_e, ff⟩ := hpp
                        replace hn : n = n1 := Eq.symm hn
                        subst hn
                        replace b_p : bP k q g y24.2.1 hh := c_p
                        clear c_p
                        replace b_e : bQ k (q + 13) y24.2.2 hh := c_e
                        clear c_e
                        replace ff : rx_fr [(q, 10), (q + 13, 3)] _ hh := ff
                        replace b_w := b_w.keep ff ⟨s_w_p, s_w_e, trivial⟩
                        replace b_st := b_st.keep ff ⟨s_st_p, s_st_e, trivial⟩
                        replace fr := rx_frt fr ff (fun a ha => ⟨ha.1, ha.2.2.1, trivial⟩)
                        refine rx_istore C dX2_passTurn_95 (by decide) [(6, .int y24.1), (0, .ref q), (1, .ref (q + 13)), (2, .int x2), (3, .int x3), (4, .int x4), (5, .int x5)] rfl ?_
                        refine rx_iload C dX2_passTurn_97 5 rfl ?_
                        refine rx_iload C dX2_passTurn_99 0 rfl ?_
                        refine rx_isub C dX2_passTurn_101 ?_
                        replace hF := rx_leE hF; obtain ⟨v25, e_v25, hF⟩ := hF
                        rw [e_v25]
                        refine rx_istore C dX2_passTurn_102 (by decide) [(4, .int v25), (6, .int y24.1), (0, .ref q), (1, .ref (q + 13)), (2, .int x2), (3, .int x3), (5, .int x5)] rfl ?_
                        refine rx_iload_n C dX2_passTurn_104 4 rfl ?_
                        refine rx_iload C dX2_passTurn_105 1 rfl ?_
                        refine rx_iadd C dX2_passTurn_107 ?_
                        replace hF := rx_leE hF; obtain ⟨v26, e_v26, hF⟩ := hF
                        rw [e_v26]
                        refine rx_istore_n C dX2_passTurn_108 (by decide) [(2, .int v26), (4, .int v25), (6, .int y24.1), (0, .ref q), (1, .ref (q + 13)), (3, .int x3), (5, .int x5)] rfl ?_
                        refine rx_iinc C dX2_passTurn_109 6 rfl (x5 + 1) rfl (by decide) [(5, .int ((x5 + 1))), (2, .int v26), (4, .int v25), (6, .int y24.1), (0, .ref q), (1, .ref (q + 13)), (3, .int x3)] rfl ?_
                        refine rx_goto C dX2_passTurn_112 71 (by decide) ?_
                        refine rx_sub [4, 5, 1, 6, 2, 0] rfl ?_
                        exact ih_loop20 _ _ _ _ _ _ _ _ hF b_p b_w b_e b_st fr KK
              refine rx_sub [2, 3, 4, 5, 1, 0] rfl ?_
              replace hF := rx_biE hF; obtain ⟨zl27, e_zl27, hF⟩ := hF
              refine loop20 _ zl27 _ _ _ _ _ _ _ e_zl27 b_p b_w b_e b_st fr (fun hh b_p b_w b_e fr => ?_)
              have b_st := b0_st.keep fr ⟨s_st_p, s_st_w, s_st_e, trivial⟩
              refine rx_iinc C dX2_passTurn_115 3 rfl (x3 + 1) rfl (by decide) [(3, .int ((x3 + 1))), (0, .ref q), (1, .ref (q + 13)), (2, .int zl27.1), (4, .int zl27.2.1), (5, .int zl27.2.2.1)] rfl ?_
              refine rx_goto C dX2_passTurn_118 25 (by decide) ?_
              refine rx_sub [1, 2, 3, 0] rfl ?_
              exact ih_loop5 _ _ _ _ _ _ _ hF b_p b_w b_e b_st fr KK
      refine rx_sub [3, 2, 1, 0] rfl ?_
      replace hF := rx_biE hF; obtain ⟨zl28, e_zl28, hF⟩ := hF
      refine loop5 _ zl28 _ _ _ _ _ _ e_zl28 b_p b_w b_e b_st fr (fun hh b_p b_w b_e fr => ?_)
      have b_st := b0_st.keep fr ⟨s_st_p, s_st_w, s_st_e, trivial⟩
      refine rx_aload_n C dX2_passTurn_121 0 rfl ?_
      refine rx_dup C dX2_passTurn_122 rfl ?_
      refine rx_getf C f_X2_53 dX2_passTurn_123 b_p.1 rfl ?_
      refine rx_iconst C dX2_passTurn_126 (1 : Int32) (by decide) ?_
      refine rx_iadd C dX2_passTurn_127 ?_
      replace hF := rx_leE hF; obtain ⟨o_p_29, e_o_p_29, hF⟩ := hF
      refine rx_pP1 C f_X2_53 dX2_passTurn_128 b_p e_o_p_29 (fun hh c_p ff => ?_)
      replace b_p := c_p
      replace b_w := b_w.keep ff ⟨s_w_p, trivial⟩
      replace b_e := b_e.keep ff ⟨s_e_p, trivial⟩
      replace b_st := b_st.keep ff ⟨s_st_p, trivial⟩
      replace fr := rx_frt fr ff (fun a ha => ⟨ha.1, trivial⟩)
      refine rx_iload_n C dX2_passTurn_131 2 rfl ?_
      obtain rfl := Option.some.inj hF
      exact rx_iret C dX2_passTurn_132 (Nat.le_refl _) (Nat.le_refl _) ⟨rfl, rfl, b_p, b_w, b_e, fr⟩
    · rw [if_neg c3] at hF ⊢
      show rx_W _ _ _ _ _ _ _ _ _ _ _ _ _ _ _ _ _ _ _ _ (.ref (q + 10) :: _)
      refine rx_astore_n C dX2_passTurn_20 (by decide) [(1, .ref (q + 10)), (0, .ref q)] rfl ?_
      refine rx_iconst C dX2_passTurn_21 (0 : Int32) (by decide) ?_
      refine rx_istore_n C dX2_passTurn_22 (by decide) [(2, .int ((0 : Int32))), (1, .ref (q + 10)), (0, .ref q)] rfl ?_
      refine rx_iconst C dX2_passTurn_23 (0 : Int32) (by decide) ?_
      refine rx_istore_n C dX2_passTurn_24 (by decide) [(3, .int ((0 : Int32))), (2, .int ((0 : Int32))), (1, .ref (q + 10)), (0, .ref q)] rfl ?_
      have loop31 : ∀ (fu : Nat) (zz : Int32 × Int32 × ob × ob × ob) (op : ob) (ow : ob) (oe : ob) (x2 : Int32) (x3 : Int32) (hh : hp), F_X2_passTurn_25_w ost fu op ow oe x2 x3 = some zz → bP k q g op hh → bQ k (q + 10) ow hh → bQ k (q + 13) oe hh → bS k g ost hh → rx_fr [(q, 10), (q + 10, 3), (q + 13, 3)] h hh → (∀ hh : hp, bP k q g zz.2.2.1 hh → bQ k (q + 10) zz.2.2.2.1 hh → bQ k (q + 13) zz.2.2.2.2 hh → rx_fr [(q, 10), (q + 10, 3), (q + 13, 3)] h hh → rx_W P9 l E9 (rx_rm 3 68) S9 M9 A9 B9 me9 c9 (MQ B9 (va_Qi (fun r u => y.1 = r ∧ u.2 = n ∧ bP k q g y.2.1 u.1 ∧ bQ k (q + 10) y.2.2.1 u.1 ∧ bQ k (q + 13) y.2.2.2 u.1 ∧ rx_fr [(q, 10), (q + 10, 3), (q + 13, 3)] h u.1) (rx_B G k) (rx_A k)) A9 S9 0 0 (rx_A k)) G k 7 0 0 hh n 121 [(0, .ref q), (1, .ref (q + 10)), (2, .int zz.1), (3, .int zz.2.1)] []) → rx_W P9 l E9 (rx_rm 3 68) S9 M9 A9 B9 me9 c9 (MQ B9 (va_Qi (fun r u => y.1 = r ∧ u.2 = n ∧ bP k q g y.2.1 u.1 ∧ bQ k (q + 10) y.2.2.1 u.1 ∧ bQ k (q + 13) y.2.2.2 u.1 ∧ rx_fr [(q, 10), (q + 10, 3), (q + 13, 3)] h u.1) (rx_B G k) (rx_A k)) A9 S9 0 0 (rx_A k)) G k 7 0 0 hh n 25 [(0, .ref q), (1, .ref (q + 10)), (2, .int x2), (3, .int x3)] [] := by
        intro fu
        induction fu with
        | zero => intro zz op ow oe x2 x3 hh hF b_p b_w b_e b_st fr KK; exact absurd hF (by simp [F_X2_passTurn_25_w])
        | succ fu ih_loop31 =>
          intro zz op ow oe x2 x3 hh hF b_p b_w b_e b_st fr KK
          unfold F_X2_passTurn_25_w at hF
          refine rx_iload_n C dX2_passTurn_25 3 rfl ?_
          refine rx_aload_n C dX2_passTurn_26 0 rfl ?_
          refine rx_getf C f_X2_49 dX2_passTurn_27 b_p.1 rfl ?_
          refine rx_getfN C f_X2_139 dX2_passTurn_30 b_st.1 rfl ?_
          refine rx_icmp_ge C dX2_passTurn_33 121 (by decide) (fun c32 => ?_) (fun c32 => ?_)
          · rw [if_pos c32] at hF
            obtain rfl := Option.some.inj hF
            refine rx_sub [0, 1, 2, 3] rfl ?_
            exact KK _ b_p b_w b_e fr
          · rw [if_neg c32] at hF
            refine rx_aload_n C dX2_passTurn_36 0 rfl ?_
            refine rx_getf C f_X2_49 dX2_passTurn_37 b_p.1 rfl ?_
            refine rx_iload_n C dX2_passTurn_40 3 rfl ?_
            refine rx_aload_n C dX2_passTurn_41 0 rfl ?_
            refine rx_getf C f_X2_53 dX2_passTurn_42 b_p.1 rfl ?_
            replace hF := rx_biE hF; obtain ⟨y33, e_y33, hF⟩ := hF
            refine rx_ci (rx_rVN C (w_X5_opens e_y33 b_st) Y_X5_opens V_X5_opens m_X2_142 (Or.inl ⟨_, _, _, _, b_st.1, rfl⟩) ⟨⟨rfl, rfl⟩, ⟨(Nat.le_of_ble_eq_true rfl), (Nat.le_of_ble_eq_true rfl)⟩, ⟨(Nat.le_of_ble_eq_true rfl), (Nat.le_of_ble_eq_true rfl)⟩⟩ rfl rfl (Nat.le_of_ble_eq_true rfl) dX2_passTurn_45) (fun r hh n1 hpp => ?_)
            obtain ⟨rfl, bo_y33, hu⟩ := hpp
            cases hu
            refine rx_if_eq C dX2_passTurn_48 65 (by decide) (fun c34 => ?_) (fun c34 => ?_)
            · rw [if_pos c34] at hF
              refine rx_iconst C dX2_passTurn_65 (0 : Int32) (by decide) ?_
              refine rx_istore C dX2_passTurn_66 (by decide) [(4, .int ((0 : Int32))), (0, .ref q), (1, .ref (q + 10)), (2, .int x2), (3, .int x3)] rfl ?_
              refine rx_iconst C dX2_passTurn_68 (0 : Int32) (by decide) ?_
              refine rx_istore C dX2_passTurn_69 (by decide) [(5, .int ((0 : Int32))), (4, .int ((0 : Int32))), (0, .ref q), (1, .ref (q + 10)), (2, .int x2), (3, .int x3)] rfl ?_
              have loop36 : ∀ (fu : Nat) (zz : Int32 × Int32 × Int32 × ob × ob × ob) (op : ob) (ow : ob) (oe : ob) (x2 : Int32) (x4 : Int32) (x5 : Int32) (hh : hp), F_X2_passTurn_71_w ost x3 fu op ow oe x2 x4 x5 = some zz → bP k q g op hh → bQ k (q + 10) ow hh → bQ k (q + 13) oe hh → bS k g ost hh → rx_fr [(q, 10), (q + 10, 3), (q + 13, 3)] h hh → (∀ hh : hp, bP k q g zz.2.2.2.1 hh → bQ k (q + 10) zz.2.2.2.2.1 hh → bQ k (q + 13) zz.2.2.2.2.2 hh → rx_fr [(q, 10), (q + 10, 3), (q + 13, 3)] h hh → rx_W P9 l E9 (rx_rm 3 68) S9 M9 A9 B9 me9 c9 (MQ B9 (va_Qi (fun r u => y.1 = r ∧ u.2 = n ∧ bP k q g y.2.1 u.1 ∧ bQ k (q + 10) y.2.2.1 u.1 ∧ bQ k (q + 13) y.2.2.2 u.1 ∧ rx_fr [(q, 10), (q + 10, 3), (q + 13, 3)] h u.1) (rx_B G k) (rx_A k)) A9 S9 0 0 (rx_A k)) G k 7 0 0 hh n 115 [(0, .ref q), (1, .ref (q + 10)), (2, .int zz.1), (3, .int x3), (4, .int zz.2.1), (5, .int zz.2.2.1)] []) → rx_W P9 l E9 (rx_rm 3 68) S9 M9 A9 B9 me9 c9 (MQ B9 (va_Qi (fun r u => y.1 = r ∧ u.2 = n ∧ bP k q g y.2.1 u.1 ∧ bQ k (q + 10) y.2.2.1 u.1 ∧ bQ k (q + 13) y.2.2.2 u.1 ∧ rx_fr [(q, 10), (q + 10, 3), (q + 13, 3)] h u.1) (rx_B G k) (rx_A k)) A9 S9 0 0 (rx_A k)) G k 7 0 0 hh n 71 [(0, .ref q), (1, .ref (q + 10)), (2, .int x2), (3, .int x3), (4, .int x4), (5, .int x5)] [] := by
                intro fu
                induction fu with
                | zero => intro zz op ow oe x2 x4 x5 hh hF b_p b_w b_e b_st fr KK; exact absurd hF (by simp [F_X2_passTurn_71_w])
                | succ fu ih_loop36 =>
                  intro zz op ow oe x2 x4 x5 hh hF b_p b_w b_e b_st fr KK
                  unfold F_X2_passTurn_71_w at hF
                  refine rx_iload C dX2_passTurn_71 5 rfl ?_
                  refine rx_bipush C dX2_passTurn_73 (10 : Int32) (by decide) ?_
                  refine rx_icmp_ge C dX2_passTurn_75 115 (by decide) (fun c37 => ?_) (fun c37 => ?_)
                  · rw [if_pos c37] at hF
                    obtain rfl := Option.some.inj hF
                    refine rx_sub [0, 1, 2, 3, 4, 5] rfl ?_
                    exact KK _ b_p b_w b_e fr
                  · rw [if_neg c37] at hF
                    refine rx_iload C dX2_passTurn_78 4 rfl ?_
                    refine rx_if_le C dX2_passTurn_80 115 (by decide) (fun c38 => ?_) (fun c38 => ?_)
                    · rw [if_pos c38] at hF
                      obtain rfl := Option.some.inj hF
                      refine rx_sub [0, 1, 2, 3, 4, 5] rfl ?_
                      exact KK _ b_p b_w b_e fr
                    · rw [if_neg c38] at hF
                      refine rx_aload_n C dX2_passTurn_83 1 rfl ?_
                      refine rx_getfN C f_X2_70 dX2_passTurn_84 b_w.1 rfl ?_
                      refine rx_if_le C dX2_passTurn_87 115 (by decide) (fun c39 => ?_) (fun c39 => ?_)
                      · rw [if_pos c39] at hF
                        obtain rfl := Option.some.inj hF
                        refine rx_sub [0, 1, 2, 3, 4, 5] rfl ?_
                        exact KK _ b_p b_w b_e fr
                      · rw [if_neg c39] at hF
                        refine rx_aload_n C dX2_passTurn_90 0 rfl ?_
                        refine rx_aload_n C dX2_passTurn_91 1 rfl ?_
                        replace hF := rx_biE hF; obtain ⟨y40, e_y40, hF⟩ := hF
                        refine rx_ci (rx_rV C (w_X2_letFirstTry_w e_y40 b_p b_w b_st (by omega)) Y_X2_letFirstTry V_X2_letFirstTry m_X2_149 (Or.inl ⟨_, _, _, _, b_p.1, rfl⟩) ⟨⟨rfl, rfl⟩, ⟨(Nat.le_of_ble_eq_true rfl), (Nat.le_of_ble_eq_true rfl)⟩, ⟨(Nat.le_of_ble_eq_true rfl), (Nat.le_of_ble_eq_true rfl)⟩⟩ rfl rfl (Nat.le_of_ble_eq_true rfl) dX2_passTurn_92) (fun r hh n1 hpp => ?_)
                        obtain ⟨rfl, hn, c_p, c_w, ff⟩ := hpp
                        replace hn : n = n1 := Eq.symm hn
                        subst hn
                        replace b_p : bP k q g y40.2.1 hh := c_p
                        clear c_p
                        replace b_w : bQ k (q + 10) y40.2.2 hh := c_w
                        clear c_w
                        replace ff : rx_fr [(q, 10), (q + 10, 3)] _ hh := ff
                        replace b_e := b_e.keep ff ⟨s_e_p, s_e_w, trivial⟩
                        replace b_st := b_st.keep ff ⟨s_st_p, s_st_w, trivial⟩
                        replace fr := rx_frt fr ff (fun a ha => ⟨ha.1, ha.2.1, trivial⟩)
                        refine rx_istore C dX2_passTurn_95 (by decide) [(6, .int y40.1), (0, .ref q), (1, .ref (q + 10)), (2, .int x2), (3, .int x3), (4, .int x4), (5, .int x5)] rfl ?_
                        refine rx_iload C dX2_passTurn_97 5 rfl ?_
                        refine rx_iload C dX2_passTurn_99 0 rfl ?_
                        refine rx_isub C dX2_passTurn_101 ?_
                        replace hF := rx_leE hF; obtain ⟨v41, e_v41, hF⟩ := hF
                        rw [e_v41]
                        refine rx_istore C dX2_passTurn_102 (by decide) [(4, .int v41), (6, .int y40.1), (0, .ref q), (1, .ref (q + 10)), (2, .int x2), (3, .int x3), (5, .int x5)] rfl ?_
                        refine rx_iload_n C dX2_passTurn_104 4 rfl ?_
                        refine rx_iload C dX2_passTurn_105 1 rfl ?_
                        refine rx_iadd C dX2_passTurn_107 ?_
                        replace hF := rx_leE hF; obtain ⟨v42, e_v42, hF⟩ := hF
                        rw [e_v42]
                        refine rx_istore_n C dX2_passTurn_108 (by decide) [(2, .int v42), (4, .int v41), (6, .int y40.1), (0, .ref q), (1, .ref (q + 10)), (3, .int x3), (5, .int x5)] rfl ?_
                        refine rx_iinc C dX2_passTurn_109 6 rfl (x5 + 1) rfl (by decide) [(5, .int ((x5 + 1))), (2, .int v42), (4, .int v41), (6, .int y40.1), (0, .ref q), (1, .ref (q + 10)), (3, .int x3)] rfl ?_
                        refine rx_goto C dX2_passTurn_112 71 (by decide) ?_
                        refine rx_sub [4, 5, 1, 6, 2, 0] rfl ?_
                        exact ih_loop36 _ _ _ _ _ _ _ _ hF b_p b_w b_e b_st fr KK
              refine rx_sub [2, 3, 4, 5, 1, 0] rfl ?_
              replace hF := rx_biE hF; obtain ⟨zl43, e_zl43, hF⟩ := hF
              refine loop36 _ zl43 _ _ _ _ _ _ _ e_zl43 b_p b_w b_e b_st fr (fun hh b_p b_w b_e fr => ?_)
              have b_st := b0_st.keep fr ⟨s_st_p, s_st_w, s_st_e, trivial⟩
              refine rx_iinc C dX2_passTurn_115 3 rfl (x3 + 1) rfl (by decide) [(3, .int ((x3 + 1))), (0, .ref q), (1, .ref (q + 10)), (2, .int zl43.1), (4, .int zl43.2.1), (5, .int zl43.2.2.1)] rfl ?_
              refine rx_goto C dX2_passTurn_118 25 (by decide) ?_
              refine rx_sub [1, 2, 3, 0] rfl ?_
              exact ih_loop31 _ _ _ _ _ _ _ hF b_p b_w b_e b_st fr KK
            · rw [if_neg c34] at hF
              refine rx_aload_n C dX2_passTurn_51 0 rfl ?_
              refine rx_getf C f_X2_49 dX2_passTurn_52 b_p.1 rfl ?_
              refine rx_getfN C f_X2_146 dX2_passTurn_55 b_st.1 rfl ?_
              refine rx_iload_n C dX2_passTurn_58 3 rfl ?_
              refine rx_ci (rx_rSN C (w_at b_st.2.2.2.2.2.2.2.2 (by decide)) Y_X8_at S_X8_at m_X2_91 ⟨⟨rfl, rfl⟩, ⟨(Nat.le_of_ble_eq_true rfl), (Nat.le_of_ble_eq_true rfl)⟩, ⟨(Nat.le_of_ble_eq_true rfl), (Nat.le_of_ble_eq_true rfl)⟩⟩ rfl rfl (Nat.le_of_ble_eq_true rfl) dX2_passTurn_59) (fun r hh n1 hpp => ?_)
              obtain ⟨rfl, hu⟩ := hpp
              cases hu
              refine rx_goto C dX2_passTurn_62 66 (by decide) ?_
              replace hF := rx_leE hF; obtain ⟨v44, e_v44, hF⟩ := hF
              rw [e_v44]
              refine rx_istore C dX2_passTurn_66 (by decide) [(4, .int v44), (0, .ref q), (1, .ref (q + 10)), (2, .int x2), (3, .int x3)] rfl ?_
              refine rx_iconst C dX2_passTurn_68 (0 : Int32) (by decide) ?_
              refine rx_istore C dX2_passTurn_69 (by decide) [(5, .int ((0 : Int32))), (4, .int v44), (0, .ref q), (1, .ref (q + 10)), (2, .int x2), (3, .int x3)] rfl ?_
              have loop46 : ∀ (fu : Nat) (zz : Int32 × Int32 × Int32 × ob × ob × ob) (op : ob) (ow : ob) (oe : ob) (x2 : Int32) (x4 : Int32) (x5 : Int32) (hh : hp), F_X2_passTurn_71_w_2 ost x3 fu op ow oe x2 x4 x5 = some zz → bP k q g op hh → bQ k (q + 10) ow hh → bQ k (q + 13) oe hh → bS k g ost hh → rx_fr [(q, 10), (q + 10, 3), (q + 13, 3)] h hh → (∀ hh : hp, bP k q g zz.2.2.2.1 hh → bQ k (q + 10) zz.2.2.2.2.1 hh → bQ k (q + 13) zz.2.2.2.2.2 hh → rx_fr [(q, 10), (q + 10, 3), (q + 13, 3)] h hh → rx_W P9 l E9 (rx_rm 3 68) S9 M9 A9 B9 me9 c9 (MQ B9 (va_Qi (fun r u => y.1 = r ∧ u.2 = n ∧ bP k q g y.2.1 u.1 ∧ bQ k (q + 10) y.2.2.1 u.1 ∧ bQ k (q + 13) y.2.2.2 u.1 ∧ rx_fr [(q, 10), (q + 10, 3), (q + 13, 3)] h u.1) (rx_B G k) (rx_A k)) A9 S9 0 0 (rx_A k)) G k 7 0 0 hh n 115 [(0, .ref q), (1, .ref (q + 10)), (2, .int zz.1), (3, .int x3), (4, .int zz.2.1), (5, .int zz.2.2.1)] []) → rx_W P9 l E9 (rx_rm 3 68) S9 M9 A9 B9 me9 c9 (MQ B9 (va_Qi (fun r u => y.1 = r ∧ u.2 = n ∧ bP k q g y.2.1 u.1 ∧ bQ k (q + 10) y.2.2.1 u.1 ∧ bQ k (q + 13) y.2.2.2 u.1 ∧ rx_fr [(q, 10), (q + 10, 3), (q + 13, 3)] h u.1) (rx_B G k) (rx_A k)) A9 S9 0 0 (rx_A k)) G k 7 0 0 hh n 71 [(0, .ref q), (1, .ref (q + 10)), (2, .int x2), (3, .int x3), (4, .int x4), (5, .int x5)] [] := by
                intro fu
                induction fu with
                | zero => intro zz op ow oe x2 x4 x5 hh hF b_p b_w b_e b_st fr KK; exact absurd hF (by simp [F_X2_passTurn_71_w_2])
                | succ fu ih_loop46 =>
                  intro zz op ow oe x2 x4 x5 hh hF b_p b_w b_e b_st fr KK
                  unfold F_X2_passTurn_71_w_2 at hF
                  refine rx_iload C dX2_passTurn_71 5 rfl ?_
                  refine rx_bipush C dX2_passTurn_73 (10 : Int32) (by decide) ?_
                  refine rx_icmp_ge C dX2_passTurn_75 115 (by decide) (fun c47 => ?_) (fun c47 => ?_)
                  · rw [if_pos c47] at hF
                    obtain rfl := Option.some.inj hF
                    refine rx_sub [0, 1, 2, 3, 4, 5] rfl ?_
                    exact KK _ b_p b_w b_e fr
                  · rw [if_neg c47] at hF
                    refine rx_iload C dX2_passTurn_78 4 rfl ?_
                    refine rx_if_le C dX2_passTurn_80 115 (by decide) (fun c48 => ?_) (fun c48 => ?_)
                    · rw [if_pos c48] at hF
                      obtain rfl := Option.some.inj hF
                      refine rx_sub [0, 1, 2, 3, 4, 5] rfl ?_
                      exact KK _ b_p b_w b_e fr
                    · rw [if_neg c48] at hF
                      refine rx_aload_n C dX2_passTurn_83 1 rfl ?_
                      refine rx_getfN C f_X2_70 dX2_passTurn_84 b_w.1 rfl ?_
                      refine rx_if_le C dX2_passTurn_87 115 (by decide) (fun c49 => ?_) (fun c49 => ?_)
                      · rw [if_pos c49] at hF
                        obtain rfl := Option.some.inj hF
                        refine rx_sub [0, 1, 2, 3, 4, 5] rfl ?_
                        exact KK _ b_p b_w b_e fr
                      · rw [if_neg c49] at hF
                        refine rx_aload_n C dX2_passTurn_90 0 rfl ?_
                        refine rx_aload_n C dX2_passTurn_91 1 rfl ?_
                        replace hF := rx_biE hF; obtain ⟨y50, e_y50, hF⟩ := hF
                        refine rx_ci (rx_rV C (w_X2_letFirstTry_w e_y50 b_p b_w b_st (by omega)) Y_X2_letFirstTry V_X2_letFirstTry m_X2_149 (Or.inl ⟨_, _, _, _, b_p.1, rfl⟩) ⟨⟨rfl, rfl⟩, ⟨(Nat.le_of_ble_eq_true rfl), (Nat.le_of_ble_eq_true rfl)⟩, ⟨(Nat.le_of_ble_eq_true rfl), (Nat.le_of_ble_eq_true rfl)⟩⟩ rfl rfl (Nat.le_of_ble_eq_true rfl) dX2_passTurn_92) (fun r hh n1 hpp => ?_)
                        obtain ⟨rfl, hn, c_p, c_w, ff⟩ := hpp
                        replace hn : n = n1 := Eq.symm hn
                        subst hn
                        replace b_p : bP k q g y50.2.1 hh := c_p
                        clear c_p
                        replace b_w : bQ k (q + 10) y50.2.2 hh := c_w
                        clear c_w
                        replace ff : rx_fr [(q, 10), (q + 10, 3)] _ hh := ff
                        replace b_e := b_e.keep ff ⟨s_e_p, s_e_w, trivial⟩
                        replace b_st := b_st.keep ff ⟨s_st_p, s_st_w, trivial⟩
                        replace fr := rx_frt fr ff (fun a ha => ⟨ha.1, ha.2.1, trivial⟩)
                        refine rx_istore C dX2_passTurn_95 (by decide) [(6, .int y50.1), (0, .ref q), (1, .ref (q + 10)), (2, .int x2), (3, .int x3), (4, .int x4), (5, .int x5)] rfl ?_
                        refine rx_iload C dX2_passTurn_97 5 rfl ?_
                        refine rx_iload C dX2_passTurn_99 0 rfl ?_
                        refine rx_isub C dX2_passTurn_101 ?_
                        replace hF := rx_leE hF; obtain ⟨v51, e_v51, hF⟩ := hF
                        rw [e_v51]
                        refine rx_istore C dX2_passTurn_102 (by decide) [(4, .int v51), (6, .int y50.1), (0, .ref q), (1, .ref (q + 10)), (2, .int x2), (3, .int x3), (5, .int x5)] rfl ?_
                        refine rx_iload_n C dX2_passTurn_104 4 rfl ?_
                        refine rx_iload C dX2_passTurn_105 1 rfl ?_
                        refine rx_iadd C dX2_passTurn_107 ?_
                        replace hF := rx_leE hF; obtain ⟨v52, e_v52, hF⟩ := hF
                        rw [e_v52]
                        refine rx_istore_n C dX2_passTurn_108 (by decide) [(2, .int v52), (4, .int v51), (6, .int y50.1), (0, .ref q), (1, .ref (q + 10)), (3, .int x3), (5, .int x5)] rfl ?_
                        refine rx_iinc C dX2_passTurn_109 6 rfl (x5 + 1) rfl (by decide) [(5, .int ((x5 + 1))), (2, .int v52), (4, .int v51), (6, .int y50.1), (0, .ref q), (1, .ref (q + 10)), (3, .int x3)] rfl ?_
                        refine rx_goto C dX2_passTurn_112 71 (by decide) ?_
                        refine rx_sub [4, 5, 1, 6, 2, 0] rfl ?_
                        exact ih_loop46 _ _ _ _ _ _ _ _ hF b_p b_w b_e b_st fr KK
              refine rx_sub [2, 3, 4, 5, 1, 0] rfl ?_
              replace hF := rx_biE hF; obtain ⟨zl53, e_zl53, hF⟩ := hF
              refine loop46 _ zl53 _ _ _ _ _ _ _ e_zl53 b_p b_w b_e b_st fr (fun hh b_p b_w b_e fr => ?_)
              have b_st := b0_st.keep fr ⟨s_st_p, s_st_w, s_st_e, trivial⟩
              refine rx_iinc C dX2_passTurn_115 3 rfl (x3 + 1) rfl (by decide) [(3, .int ((x3 + 1))), (0, .ref q), (1, .ref (q + 10)), (2, .int zl53.1), (4, .int zl53.2.1), (5, .int zl53.2.2.1)] rfl ?_
              refine rx_goto C dX2_passTurn_118 25 (by decide) ?_
              refine rx_sub [1, 2, 3, 0] rfl ?_
              exact ih_loop31 _ _ _ _ _ _ _ hF b_p b_w b_e b_st fr KK
      refine rx_sub [3, 2, 1, 0] rfl ?_
      replace hF := rx_biE hF; obtain ⟨zl54, e_zl54, hF⟩ := hF
      refine loop31 _ zl54 _ _ _ _ _ _ e_zl54 b_p b_w b_e b_st fr (fun hh b_p b_w b_e fr => ?_)
      have b_st := b0_st.keep fr ⟨s_st_p, s_st_w, s_st_e, trivial⟩
      refine rx_aload_n C dX2_passTurn_121 0 rfl ?_
      refine rx_dup C dX2_passTurn_122 rfl ?_
      refine rx_getf C f_X2_53 dX2_passTurn_123 b_p.1 rfl ?_
      refine rx_iconst C dX2_passTurn_126 (1 : Int32) (by decide) ?_
      refine rx_iadd C dX2_passTurn_127 ?_
      replace hF := rx_leE hF; obtain ⟨o_p_55, e_o_p_55, hF⟩ := hF
      refine rx_pP1 C f_X2_53 dX2_passTurn_128 b_p e_o_p_55 (fun hh c_p ff => ?_)
      replace b_p := c_p
      replace b_w := b_w.keep ff ⟨s_w_p, trivial⟩
      replace b_e := b_e.keep ff ⟨s_e_p, trivial⟩
      replace b_st := b_st.keep ff ⟨s_st_p, trivial⟩
      replace fr := rx_frt fr ff (fun a ha => ⟨ha.1, trivial⟩)
      refine rx_iload_n C dX2_passTurn_131 2 rfl ?_
      obtain rfl := Option.some.inj hF
      exact rx_iret C dX2_passTurn_132 (Nat.le_refl _) (Nat.le_refl _) ⟨rfl, rfl, b_p, b_w, b_e, fr⟩
  · rw [if_neg c1] at hF
    refine rx_iconst C dX2_passTurn_10 (0 : Int32) (by decide) ?_
    obtain rfl := Option.some.inj hF
    exact rx_iret C dX2_passTurn_11 (Nat.le_refl _) (Nat.le_refl _) ⟨rfl, rfl, b_p, b_w, b_e, fr⟩
def F_X2_passSeveral_4 (ost : ob) (x1 : Int32) : Nat → ob → ob → ob → Int32 → Int32 → Option (Int32 × Int32 × ob × ob × ob)
  | 0, _, _, _, _, _ => none
  | fu + 1, op, ow, oe, x2, x3 => if x1 ≤ x3 then (some (x2, x3, op, ow, oe)) else ((F_X2_passTurn op ow oe ost).bind fun y4 => rx_le ((x2 + y4.1)) fun v5 => F_X2_passSeveral_4 ost x1 fu y4.2.1 y4.2.2.1 y4.2.2.2 v5 ((x3 + 1)))
def F_X2_passSeveral (op : ob) (ow : ob) (oe : ob) (ost : ob) (x1 : Int32) : Option (Int32 × ob × ob × ob) := (F_X2_passSeveral_4 ost x1 100000 op ow oe ((0 : Int32)) ((0 : Int32))).bind fun zl6 => some (zl6.1, zl6.2.2.1, zl6.2.2.2.1, zl6.2.2.2.2)
set_option maxRecDepth 100000 in
set_option maxHeartbeats 4000000 in
theorem w_X2_passSeveral {q g : Nat} {op : ob} {ow : ob} {oe : ob} {ost : ob} {x1 : Int32} {y : Int32 × ob × ob × ob} (hF : F_X2_passSeveral op ow oe ost x1 = some y) (b_p : bP k q g op h) (b_w : bQ k (q + 10) ow h) (b_e : bQ k (q + 13) oe h) (b_st : bS k g ost h) (hd0 : q + 16 ≤ g ∨ g + 9 ≤ q) : Met l yX2_passSeveral (rx_ws yX2_passSeveral cX2_passSeveral 4 (some .int)) (rx_rm 4 94) (va_Pc [.ref q, .int x1] (rx_G G k h n)) (va_Qi (fun r u => y.1 = r ∧ u.2 = n ∧ bP k q g y.2.1 u.1 ∧ bQ k (q + 10) y.2.2.1 u.1 ∧ bQ k (q + 13) y.2.2.2 u.1 ∧ rx_fr [(q, 10), (q + 10, 3), (q + 13, 3)] h u.1) (rx_B G k) (rx_A k)) 0 0 (rx_A k) := by
  have s_st_p : g + 9 ≤ q ∨ q + 10 ≤ g := by omega
  have s_st_w : g + 9 ≤ q + 10 ∨ q + 10 + 3 ≤ g := by omega
  have s_st_e : g + 9 ≤ q + 13 ∨ q + 13 + 3 ≤ g := by omega
  refine rx_start [(0, .ref q), (1, .int x1)] rfl (Nat.le_of_ble_eq_true rfl) (by decide) rfl (fun P9 E9 S9 M9 A9 B9 me9 c9 C hname => ?_)
  unfold F_X2_passSeveral at hF
  have fr : rx_fr [(q, 10), (q + 10, 3), (q + 13, 3)] h h := rx_fr0
  have b0_p := b_p
  have b0_w := b_w
  have b0_e := b_e
  have b0_st := b_st
  refine rx_iconst C dX2_passSeveral_0 (0 : Int32) (by decide) ?_
  refine rx_istore_n C dX2_passSeveral_1 (by decide) [(2, .int ((0 : Int32))), (0, .ref q), (1, .int x1)] rfl ?_
  refine rx_iconst C dX2_passSeveral_2 (0 : Int32) (by decide) ?_
  refine rx_istore_n C dX2_passSeveral_3 (by decide) [(3, .int ((0 : Int32))), (2, .int ((0 : Int32))), (0, .ref q), (1, .int x1)] rfl ?_
  have loop2 : ∀ (fu : Nat) (zz : Int32 × Int32 × ob × ob × ob) (op : ob) (ow : ob) (oe : ob) (x2 : Int32) (x3 : Int32) (hh : hp), F_X2_passSeveral_4 ost x1 fu op ow oe x2 x3 = some zz → bP k q g op hh → bQ k (q + 10) ow hh → bQ k (q + 13) oe hh → bS k g ost hh → rx_fr [(q, 10), (q + 10, 3), (q + 13, 3)] h hh → (∀ hh : hp, bP k q g zz.2.2.1 hh → bQ k (q + 10) zz.2.2.2.1 hh → bQ k (q + 13) zz.2.2.2.2 hh → rx_fr [(q, 10), (q + 10, 3), (q + 13, 3)] h hh → rx_W P9 l E9 (rx_rm 4 94) S9 M9 A9 B9 me9 c9 (MQ B9 (va_Qi (fun r u => y.1 = r ∧ u.2 = n ∧ bP k q g y.2.1 u.1 ∧ bQ k (q + 10) y.2.2.1 u.1 ∧ bQ k (q + 13) y.2.2.2 u.1 ∧ rx_fr [(q, 10), (q + 10, 3), (q + 13, 3)] h u.1) (rx_B G k) (rx_A k)) A9 S9 0 0 (rx_A k)) G k 4 0 0 hh n 22 [(0, .ref q), (1, .int x1), (2, .int zz.1), (3, .int zz.2.1)] []) → rx_W P9 l E9 (rx_rm 4 94) S9 M9 A9 B9 me9 c9 (MQ B9 (va_Qi (fun r u => y.1 = r ∧ u.2 = n ∧ bP k q g y.2.1 u.1 ∧ bQ k (q + 10) y.2.2.1 u.1 ∧ bQ k (q + 13) y.2.2.2 u.1 ∧ rx_fr [(q, 10), (q + 10, 3), (q + 13, 3)] h u.1) (rx_B G k) (rx_A k)) A9 S9 0 0 (rx_A k)) G k 4 0 0 hh n 4 [(0, .ref q), (1, .int x1), (2, .int x2), (3, .int x3)] [] := by
    intro fu
    induction fu with
    | zero => intro zz op ow oe x2 x3 hh hF b_p b_w b_e b_st fr KK; exact absurd hF (by simp [F_X2_passSeveral_4])
    | succ fu ih_loop2 =>
      intro zz op ow oe x2 x3 hh hF b_p b_w b_e b_st fr KK
      unfold F_X2_passSeveral_4 at hF
      refine rx_iload_n C dX2_passSeveral_4 3 rfl ?_
      refine rx_iload_n C dX2_passSeveral_5 1 rfl ?_
      refine rx_icmp_ge C dX2_passSeveral_6 22 (by decide) (fun c3 => ?_) (fun c3 => ?_)
      · rw [if_pos c3] at hF
        obtain rfl := Option.some.inj hF
        refine rx_sub [0, 1, 2, 3] rfl ?_
        exact KK _ b_p b_w b_e fr
      · rw [if_neg c3] at hF
        refine rx_iload_n C dX2_passSeveral_9 2 rfl ?_
        refine rx_aload_n C dX2_passSeveral_10 0 rfl ?_
        replace hF := rx_biE hF; obtain ⟨y4, e_y4, hF⟩ := hF
        refine rx_ci (rx_rV C (w_X2_passTurn e_y4 b_p b_w b_e b_st (by omega)) Y_X2_passTurn V_X2_passTurn m_X2_132 (Or.inl ⟨_, _, _, _, b_p.1, rfl⟩) ⟨⟨rfl, rfl⟩, ⟨(Nat.le_of_ble_eq_true rfl), (Nat.le_of_ble_eq_true rfl)⟩, ⟨(Nat.le_of_ble_eq_true rfl), (Nat.le_of_ble_eq_true rfl)⟩⟩ rfl rfl (Nat.le_of_ble_eq_true rfl) dX2_passSeveral_11) (fun r hh n1 hpp => ?_)
        obtain ⟨rfl, hn, c_p, c_w, c_e, ff⟩ := hpp
        replace hn : n = n1 := Eq.symm hn
        subst hn
        replace b_p : bP k q g y4.2.1 hh := c_p
        clear c_p
        replace b_w : bQ k (q + 10) y4.2.2.1 hh := c_w
        clear c_w
        replace b_e : bQ k (q + 13) y4.2.2.2 hh := c_e
        clear c_e
        replace ff : rx_fr [(q, 10), (q + 10, 3), (q + 13, 3)] _ hh := ff
        replace b_st := b_st.keep ff ⟨s_st_p, s_st_w, s_st_e, trivial⟩
        replace fr := rx_frt fr ff (fun a ha => ⟨ha.1, ha.2.1, ha.2.2.1, trivial⟩)
        refine rx_iadd C dX2_passSeveral_14 ?_
        replace hF := rx_leE hF; obtain ⟨v5, e_v5, hF⟩ := hF
        rw [e_v5]
        refine rx_istore_n C dX2_passSeveral_15 (by decide) [(2, .int v5), (0, .ref q), (1, .int x1), (3, .int x3)] rfl ?_
        refine rx_iinc C dX2_passSeveral_16 3 rfl (x3 + 1) rfl (by decide) [(3, .int ((x3 + 1))), (2, .int v5), (0, .ref q), (1, .int x1)] rfl ?_
        refine rx_goto C dX2_passSeveral_19 4 (by decide) ?_
        refine rx_sub [2, 3, 1, 0] rfl ?_
        exact ih_loop2 _ _ _ _ _ _ _ hF b_p b_w b_e b_st fr KK
  refine rx_sub [2, 3, 1, 0] rfl ?_
  replace hF := rx_biE hF; obtain ⟨zl6, e_zl6, hF⟩ := hF
  refine loop2 _ zl6 _ _ _ _ _ _ e_zl6 b_p b_w b_e b_st fr (fun hh b_p b_w b_e fr => ?_)
  have b_st := b0_st.keep fr ⟨s_st_p, s_st_w, s_st_e, trivial⟩
  refine rx_iload_n C dX2_passSeveral_22 2 rfl ?_
  obtain rfl := Option.some.inj hF
  exact rx_iret C dX2_passSeveral_23 (Nat.le_refl _) (Nat.le_refl _) ⟨rfl, rfl, b_p, b_w, b_e, fr⟩
end GEN
