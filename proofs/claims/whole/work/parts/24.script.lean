section GEN
variable {l : Launch} {G : va_G} {k : Nat → Nat} {h : hp} {n : Nat}
def F_X4_readCommand (oc : obv) (ot : ob) : Option (obv × ob) := (F_X7_spelledIn ot).bind fun y1 => match y1 with | none => ((F_X6_fail ot ((1 : Int32))).bind fun y3 => some (oc, y3)) | some z2 => (if (oc.1.1 3) < (0 : Int32) then ((F_X6_fail ot ((3 : Int32))).bind fun y5 => some (oc, y5)) else (if (oc.1.1 3) < (nI 20) then ((F_X6_advance ot).bind fun y7 => (rx_vst oc.2 ((oc.1.1 3)) z2).bind fun f8 => rx_le (oc.1, f8) fun o_c_9 => (F_X7_lowest z2 ((0 : Int32))).bind fun y10 => (F_X7_highest z2 ((0 : Int32))).bind fun y11 => (F_X6_takeNumber y7 y10 y11).bind fun y12 => rx_le ((o_c_9.1.1, va_up o_c_9.1.2 1 (rx_put 20 (o_c_9.1.2 1) ((o_c_9.1.1 3)) y12.1)), o_c_9.2) fun o_c_13 => if (rx_vt 1 z2) ≤ (1 : Int32) then (rx_le ((o_c_13.1.1, va_up o_c_13.1.2 2 (rx_put 20 (o_c_13.1.2 2) ((o_c_13.1.1 3)) ((0 : Int32)))), o_c_13.2) fun o_c_15 => (F_X6_takeSemicolon y12.2).bind fun y16 => rx_le ((upd o_c_15.1.1 3 (((o_c_15.1.1 3) + (1 : Int32))), o_c_15.1.2), o_c_15.2) fun o_c_17 => some (o_c_17, y16)) else ((F_X7_lowest z2 ((1 : Int32))).bind fun y18 => (F_X7_highest z2 ((1 : Int32))).bind fun y19 => (F_X6_takeNumber y12.2 y18 y19).bind fun y20 => rx_le ((o_c_13.1.1, va_up o_c_13.1.2 2 (rx_put 20 (o_c_13.1.2 2) ((o_c_13.1.1 3)) y20.1)), o_c_13.2) fun o_c_21 => (F_X6_takeSemicolon y20.2).bind fun y22 => rx_le ((upd o_c_21.1.1 3 (((o_c_21.1.1 3) + (1 : Int32))), o_c_21.1.2), o_c_21.2) fun o_c_23 => some (o_c_23, y22))) else ((F_X6_fail ot ((3 : Int32))).bind fun y24 => some (oc, y24))))
set_option maxRecDepth 100000 in
set_option maxHeartbeats 4000000 in
theorem w_X4_readCommand {c t : Nat} {oc : obv} {ot : ob} {y : obv × ob} (hF : F_X4_readCommand oc ot = some y) (b_c : bC k c oc h) (b_t : bT k t ot h) (hd0 : c + 4 ≤ t ∨ t + 2 ≤ c) : Met l yX4_readCommand (rx_ws yX4_readCommand cX4_readCommand 3 none) (rx_rm 6 129) (va_Pc [.ref c, .ref t] (rx_G G k h n)) (va_Qv (fun u => u.2 = n ∧ bC k c y.1 u.1 ∧ bT k t y.2 u.1 ∧ rx_fr [(c, 4), (t, 2)] h u.1) (rx_B G k) (rx_A k)) 0 0 (rx_A k) := by
  have s_c_t : c + 4 ≤ t ∨ t + 2 ≤ c := by omega
  have s_t_c : t + 2 ≤ c ∨ c + 4 ≤ t := by omega
  refine rx_start [(0, .ref c), (1, .ref t)] rfl (Nat.le_of_ble_eq_true rfl) (by decide) rfl (fun P9 E9 S9 M9 A9 B9 me9 c9 C hname => ?_)
  unfold F_X4_readCommand at hF
  have fr : rx_fr [(c, 4), (t, 2)] h h := rx_fr0
  refine rx_aload_n C dX4_readCommand_0 1 rfl ?_
  replace hF := rx_biE hF; obtain ⟨y1, e_y1, hF⟩ := hF
  refine rx_cq (rx_rSN C (w_X7_spelledIn e_y1 b_t) Y_X7_spelledIn S_X7_spelledIn m_X4_41 ⟨⟨rfl, rfl⟩, ⟨(Nat.le_of_ble_eq_true rfl), (Nat.le_of_ble_eq_true rfl)⟩, ⟨(Nat.le_of_ble_eq_true rfl), (Nat.le_of_ble_eq_true rfl)⟩⟩ rfl rfl (Nat.le_of_ble_eq_true rfl) dX4_readCommand_1) (fun r hh n1 hpp => ?_)
  obtain ⟨rfl, hv_y1, hu⟩ := hpp
  cases hu
  have hq_y1 := hv_y1
  rcases y1 with _ | z2
  · dsimp only at hF
    show rx_W _ _ _ _ _ _ _ _ _ _ _ _ _ _ _ _ _ _ _ _ (.null :: _)
    refine rx_astore_nN C dX4_readCommand_4 (by decide) [(2, .null), (0, .ref c), (1, .ref t)] rfl ?_
    refine rx_aload_nN C dX4_readCommand_5 0 rfl ?_
    refine rx_ifnonnullN C dX4_readCommand_6 ?_
    refine rx_aload_n C dX4_readCommand_9 2 rfl ?_
    refine rx_iconst C dX4_readCommand_10 (1 : Int32) (by decide) ?_
    replace hF := rx_biE hF; obtain ⟨y3, e_y3, hF⟩ := hF
    refine rx_cv (rx_rVN C (w_X6_fail e_y3 b_t) Y_X6_fail V_X6_fail m_X4_45 (Or.inl ⟨_, _, _, _, b_t.1, rfl⟩) ⟨⟨rfl, rfl⟩, ⟨(Nat.le_of_ble_eq_true rfl), (Nat.le_of_ble_eq_true rfl)⟩, ⟨(Nat.le_of_ble_eq_true rfl), (Nat.le_of_ble_eq_true rfl)⟩⟩ rfl rfl (Nat.le_of_ble_eq_true rfl) dX4_readCommand_11) (fun hh n1 hpp => ?_)
    obtain ⟨hn, c_t, ff⟩ := hpp
    replace hn : n = n1 := Eq.symm hn
    subst hn
    replace b_t : bT k t y3 hh := c_t
    clear c_t
    replace ff : rx_fr [(t, 2)] _ hh := ff
    replace b_c := b_c.keep ff ⟨s_c_t, trivial⟩
    replace fr := rx_frt fr ff (fun a ha => ⟨ha.2.1, trivial⟩)
    refine rx_goto C dX4_readCommand_14 134 (by decide) ?_
    obtain rfl := Option.some.inj hF
    exact rx_vret C dX4_readCommand_134 (Nat.le_refl _) (Nat.le_refl _) ⟨rfl, b_c, b_t, fr⟩
  · dsimp only at hF
    have hz_z2 : z2 < 9 := hq_y1 _ rfl
    show rx_W _ _ _ _ _ _ _ _ _ _ _ _ _ _ _ _ _ _ _ _ (.ref (k (10 + z2)) :: _)
    refine rx_astore_n C dX4_readCommand_4 (by decide) [(2, .ref (k (10 + z2))), (0, .ref c), (1, .ref t)] rfl ?_
    refine rx_aload_n C dX4_readCommand_5 0 rfl ?_
    refine rx_ifnonnull C dX4_readCommand_6 17 (by decide) ?_
    refine rx_aload_n C dX4_readCommand_17 1 rfl ?_
    refine rx_getf C f_X4_24 dX4_readCommand_18 b_c.1 rfl ?_
    refine rx_if_lt C dX4_readCommand_21 36 (by decide) (fun c4 => ?_) (fun c4 => ?_)
    · rw [if_pos c4] at hF
      refine rx_aload_n C dX4_readCommand_36 2 rfl ?_
      refine rx_iconst C dX4_readCommand_37 (3 : Int32) (by decide) ?_
      replace hF := rx_biE hF; obtain ⟨y5, e_y5, hF⟩ := hF
      refine rx_cv (rx_rVN C (w_X6_fail e_y5 b_t) Y_X6_fail V_X6_fail m_X4_45 (Or.inl ⟨_, _, _, _, b_t.1, rfl⟩) ⟨⟨rfl, rfl⟩, ⟨(Nat.le_of_ble_eq_true rfl), (Nat.le_of_ble_eq_true rfl)⟩, ⟨(Nat.le_of_ble_eq_true rfl), (Nat.le_of_ble_eq_true rfl)⟩⟩ rfl rfl (Nat.le_of_ble_eq_true rfl) dX4_readCommand_38) (fun hh n1 hpp => ?_)
      obtain ⟨hn, c_t, ff⟩ := hpp
      replace hn : n = n1 := Eq.symm hn
      subst hn
      replace b_t : bT k t y5 hh := c_t
      clear c_t
      replace ff : rx_fr [(t, 2)] _ hh := ff
      replace b_c := b_c.keep ff ⟨s_c_t, trivial⟩
      replace fr := rx_frt fr ff (fun a ha => ⟨ha.2.1, trivial⟩)
      refine rx_goto C dX4_readCommand_41 134 (by decide) ?_
      obtain rfl := Option.some.inj hF
      exact rx_vret C dX4_readCommand_134 (Nat.le_refl _) (Nat.le_refl _) ⟨rfl, b_c, b_t, fr⟩
    · rw [if_neg c4] at hF
      refine rx_aload_n C dX4_readCommand_24 1 rfl ?_
      refine rx_getf C f_X4_24 dX4_readCommand_25 b_c.1 rfl ?_
      refine rx_aload_n C dX4_readCommand_28 1 rfl ?_
      refine rx_getf C f_X4_11 dX4_readCommand_29 b_c.1 rfl ?_
      refine rx_alen C 3 rfl dX4_readCommand_32 b_c.2.1 ?_
      refine rx_icmp_lt C dX4_readCommand_33 44 (by decide) (fun c6 => ?_) (fun c6 => ?_)
      · rw [if_pos c6] at hF
        refine rx_aload_n C dX4_readCommand_44 2 rfl ?_
        replace hF := rx_biE hF; obtain ⟨y7, e_y7, hF⟩ := hF
        refine rx_cv (rx_rVN C (w_X6_advance e_y7 b_t) Y_X6_advance V_X6_advance m_X4_49 (Or.inl ⟨_, _, _, _, b_t.1, rfl⟩) ⟨⟨rfl, rfl⟩, ⟨(Nat.le_of_ble_eq_true rfl), (Nat.le_of_ble_eq_true rfl)⟩, ⟨(Nat.le_of_ble_eq_true rfl), (Nat.le_of_ble_eq_true rfl)⟩⟩ rfl rfl (Nat.le_of_ble_eq_true rfl) dX4_readCommand_45) (fun hh n1 hpp => ?_)
        obtain ⟨hn, c_t, ff⟩ := hpp
        replace hn : n = n1 := Eq.symm hn
        subst hn
        replace b_t : bT k t y7 hh := c_t
        clear c_t
        replace ff : rx_fr [(t, 2)] _ hh := ff
        replace b_c := b_c.keep ff ⟨s_c_t, trivial⟩
        replace fr := rx_frt fr ff (fun a ha => ⟨ha.2.1, trivial⟩)
        refine rx_aload_n C dX4_readCommand_48 1 rfl ?_
        refine rx_getf C f_X4_11 dX4_readCommand_49 b_c.1 rfl ?_
        refine rx_aload_n C dX4_readCommand_52 1 rfl ?_
        refine rx_getf C f_X4_24 dX4_readCommand_53 b_c.1 rfl ?_
        refine rx_aload_n C dX4_readCommand_56 0 rfl ?_
        replace hF := rx_biE hF; obtain ⟨f8, e_f8, hF⟩ := hF
        replace hF := rx_leE hF; obtain ⟨o_c_9, e_o_c_9, hF⟩ := hF
        refine rx_vast C dX4_readCommand_57 b_c hz_z2 e_f8 e_o_c_9 (fun hh c_c ff => ?_)
        replace b_c := c_c
        replace b_t := b_t.keep ff ⟨s_t_c, trivial⟩
        replace fr := rx_frt fr ff (fun a ha => ⟨ha.1, trivial⟩)
        refine rx_aload_n C dX4_readCommand_58 1 rfl ?_
        refine rx_getf C f_X4_17 dX4_readCommand_59 b_c.1 rfl ?_
        refine rx_aload_n C dX4_readCommand_62 1 rfl ?_
        refine rx_getf C f_X4_24 dX4_readCommand_63 b_c.1 rfl ?_
        refine rx_aload_n C dX4_readCommand_66 2 rfl ?_
        refine rx_aload_n C dX4_readCommand_67 0 rfl ?_
        refine rx_iconst C dX4_readCommand_68 (0 : Int32) (by decide) ?_
        replace hF := rx_biE hF; obtain ⟨y10, e_y10, hF⟩ := hF
        refine rx_ci (rx_rVN C (w_X7_lowest e_y10 hz_z2) Y_X7_lowest V_X7_lowest m_X4_52 (Or.inr (C.2.2.2.2.2.2.2.2.2.1 _ hz_z2).2.1) ⟨⟨rfl, rfl⟩, ⟨(Nat.le_of_ble_eq_true rfl), (Nat.le_of_ble_eq_true rfl)⟩, ⟨(Nat.le_of_ble_eq_true rfl), (Nat.le_of_ble_eq_true rfl)⟩⟩ rfl rfl (Nat.le_of_ble_eq_true rfl) dX4_readCommand_69) (fun r hh n1 hpp => ?_)
        obtain ⟨rfl, hu⟩ := hpp
        cases hu
        refine rx_aload_n C dX4_readCommand_72 0 rfl ?_
        refine rx_iconst C dX4_readCommand_73 (0 : Int32) (by decide) ?_
        replace hF := rx_biE hF; obtain ⟨y11, e_y11, hF⟩ := hF
        refine rx_ci (rx_rVN C (w_X7_highest e_y11 hz_z2) Y_X7_highest V_X7_highest m_X4_56 (Or.inr (C.2.2.2.2.2.2.2.2.2.1 _ hz_z2).2.1) ⟨⟨rfl, rfl⟩, ⟨(Nat.le_of_ble_eq_true rfl), (Nat.le_of_ble_eq_true rfl)⟩, ⟨(Nat.le_of_ble_eq_true rfl), (Nat.le_of_ble_eq_true rfl)⟩⟩ rfl rfl (Nat.le_of_ble_eq_true rfl) dX4_readCommand_74) (fun r hh n1 hpp => ?_)
        obtain ⟨rfl, hu⟩ := hpp
        cases hu
        replace hF := rx_biE hF; obtain ⟨y12, e_y12, hF⟩ := hF
        refine rx_ci (rx_rVN C (w_X6_takeNumber e_y12 b_t) Y_X6_takeNumber V_X6_takeNumber m_X4_59 (Or.inl ⟨_, _, _, _, b_t.1, rfl⟩) ⟨⟨rfl, rfl⟩, ⟨(Nat.le_of_ble_eq_true rfl), (Nat.le_of_ble_eq_true rfl)⟩, ⟨(Nat.le_of_ble_eq_true rfl), (Nat.le_of_ble_eq_true rfl)⟩⟩ rfl rfl (Nat.le_of_ble_eq_true rfl) dX4_readCommand_77) (fun r hh n1 hpp => ?_)
        obtain ⟨rfl, hn, c_t, ff⟩ := hpp
        replace hn : n = n1 := Eq.symm hn
        subst hn
        replace b_t : bT k t y12.2 hh := c_t
        clear c_t
        replace ff : rx_fr [(t, 2)] _ hh := ff
        replace b_c := b_c.keep ff ⟨s_c_t, trivial⟩
        replace fr := rx_frt fr ff (fun a ha => ⟨ha.2.1, trivial⟩)
        replace hF := rx_leE hF; obtain ⟨o_c_13, e_o_c_13, hF⟩ := hF
        refine rx_cv (rx_rSN C (w_put b_c.2.2.1 (by decide)) Y_X8_put S_X8_put m_X4_63 ⟨⟨rfl, rfl⟩, ⟨(Nat.le_of_ble_eq_true rfl), (Nat.le_of_ble_eq_true rfl)⟩, ⟨(Nat.le_of_ble_eq_true rfl), (Nat.le_of_ble_eq_true rfl)⟩⟩ rfl rfl (Nat.le_of_ble_eq_true rfl) dX4_readCommand_80) (fun hh n1 hpp => ?_)
        obtain ⟨c_c, ff, hn⟩ := b_c.wr1 e_o_c_13 hpp
        replace hn := Eq.symm hn
        subst hn
        replace b_c := c_c
        replace b_t := b_t.keep ff ⟨s_t_c, trivial⟩
        replace fr := rx_frt fr ff (fun a ha => ⟨ha.1, trivial⟩)
        refine rx_aload_n C dX4_readCommand_83 1 rfl ?_
        refine rx_getf C f_X4_21 dX4_readCommand_84 b_c.1 rfl ?_
        refine rx_aload_n C dX4_readCommand_87 1 rfl ?_
        refine rx_getf C f_X4_24 dX4_readCommand_88 b_c.1 rfl ?_
        refine rx_aload_n C dX4_readCommand_91 0 rfl ?_
        refine rx_getON (v := .int (rx_vt 1 z2)) C (rx_vO C hz_z2 1 rfl) sf_X4_67 dX4_readCommand_92 ?_
        refine rx_iconst C dX4_readCommand_95 (1 : Int32) (by decide) ?_
        refine rx_icmp_le C dX4_readCommand_96 116 (by decide) (fun c14 => ?_) (fun c14 => ?_)
        · rw [if_pos c14] at hF
          refine rx_iconst C dX4_readCommand_116 (0 : Int32) (by decide) ?_
          replace hF := rx_leE hF; obtain ⟨o_c_15, e_o_c_15, hF⟩ := hF
          refine rx_cv (rx_rSN C (w_put b_c.2.2.2.1 (by decide)) Y_X8_put S_X8_put m_X4_63 ⟨⟨rfl, rfl⟩, ⟨(Nat.le_of_ble_eq_true rfl), (Nat.le_of_ble_eq_true rfl)⟩, ⟨(Nat.le_of_ble_eq_true rfl), (Nat.le_of_ble_eq_true rfl)⟩⟩ rfl rfl (Nat.le_of_ble_eq_true rfl) dX4_readCommand_117) (fun hh n1 hpp => ?_)
          obtain ⟨c_c, ff, hn⟩ := b_c.wr2 e_o_c_15 hpp
          replace hn := Eq.symm hn
          subst hn
          replace b_c := c_c
          replace b_t := b_t.keep ff ⟨s_t_c, trivial⟩
          replace fr := rx_frt fr ff (fun a ha => ⟨ha.1, trivial⟩)
          refine rx_aload_n C dX4_readCommand_120 2 rfl ?_
          replace hF := rx_biE hF; obtain ⟨y16, e_y16, hF⟩ := hF
          refine rx_cv (rx_rVN C (w_X6_takeSemicolon e_y16 b_t) Y_X6_takeSemicolon V_X6_takeSemicolon m_X4_70 (Or.inl ⟨_, _, _, _, b_t.1, rfl⟩) ⟨⟨rfl, rfl⟩, ⟨(Nat.le_of_ble_eq_true rfl), (Nat.le_of_ble_eq_true rfl)⟩, ⟨(Nat.le_of_ble_eq_true rfl), (Nat.le_of_ble_eq_true rfl)⟩⟩ rfl rfl (Nat.le_of_ble_eq_true rfl) dX4_readCommand_121) (fun hh n1 hpp => ?_)
          obtain ⟨hn, c_t, ff⟩ := hpp
          replace hn : n = n1 := Eq.symm hn
          subst hn
          replace b_t : bT k t y16 hh := c_t
          clear c_t
          replace ff : rx_fr [(t, 2)] _ hh := ff
          replace b_c := b_c.keep ff ⟨s_c_t, trivial⟩
          replace fr := rx_frt fr ff (fun a ha => ⟨ha.2.1, trivial⟩)
          refine rx_aload_n C dX4_readCommand_124 1 rfl ?_
          refine rx_dup C dX4_readCommand_125 rfl ?_
          refine rx_getf C f_X4_24 dX4_readCommand_126 b_c.1 rfl ?_
          refine rx_iconst C dX4_readCommand_129 (1 : Int32) (by decide) ?_
          refine rx_iadd C dX4_readCommand_130 ?_
          replace hF := rx_leE hF; obtain ⟨o_c_17, e_o_c_17, hF⟩ := hF
          refine rx_pC3 C f_X4_24 dX4_readCommand_131 b_c e_o_c_17 (fun hh c_c ff => ?_)
          replace b_c := c_c
          replace b_t := b_t.keep ff ⟨s_t_c, trivial⟩
          replace fr := rx_frt fr ff (fun a ha => ⟨ha.1, trivial⟩)
          obtain rfl := Option.some.inj hF
          exact rx_vret C dX4_readCommand_134 (Nat.le_refl _) (Nat.le_refl _) ⟨rfl, b_c, b_t, fr⟩
        · rw [if_neg c14] at hF
          refine rx_aload_n C dX4_readCommand_99 2 rfl ?_
          refine rx_aload_n C dX4_readCommand_100 0 rfl ?_
          refine rx_iconst C dX4_readCommand_101 (1 : Int32) (by decide) ?_
          replace hF := rx_biE hF; obtain ⟨y18, e_y18, hF⟩ := hF
          refine rx_ci (rx_rVN C (w_X7_lowest e_y18 hz_z2) Y_X7_lowest V_X7_lowest m_X4_52 (Or.inr (C.2.2.2.2.2.2.2.2.2.1 _ hz_z2).2.1) ⟨⟨rfl, rfl⟩, ⟨(Nat.le_of_ble_eq_true rfl), (Nat.le_of_ble_eq_true rfl)⟩, ⟨(Nat.le_of_ble_eq_true rfl), (Nat.le_of_ble_eq_true rfl)⟩⟩ rfl rfl (Nat.le_of_ble_eq_true rfl) dX4_readCommand_102) (fun r hh n1 hpp => ?_)
          obtain ⟨rfl, hu⟩ := hpp
          cases hu
          refine rx_aload_n C dX4_readCommand_105 0 rfl ?_
          refine rx_iconst C dX4_readCommand_106 (1 : Int32) (by decide) ?_
          replace hF := rx_biE hF; obtain ⟨y19, e_y19, hF⟩ := hF
          refine rx_ci (rx_rVN C (w_X7_highest e_y19 hz_z2) Y_X7_highest V_X7_highest m_X4_56 (Or.inr (C.2.2.2.2.2.2.2.2.2.1 _ hz_z2).2.1) ⟨⟨rfl, rfl⟩, ⟨(Nat.le_of_ble_eq_true rfl), (Nat.le_of_ble_eq_true rfl)⟩, ⟨(Nat.le_of_ble_eq_true rfl), (Nat.le_of_ble_eq_true rfl)⟩⟩ rfl rfl (Nat.le_of_ble_eq_true rfl) dX4_readCommand_107) (fun r hh n1 hpp => ?_)
          obtain ⟨rfl, hu⟩ := hpp
          cases hu
          replace hF := rx_biE hF; obtain ⟨y20, e_y20, hF⟩ := hF
          refine rx_ci (rx_rVN C (w_X6_takeNumber e_y20 b_t) Y_X6_takeNumber V_X6_takeNumber m_X4_59 (Or.inl ⟨_, _, _, _, b_t.1, rfl⟩) ⟨⟨rfl, rfl⟩, ⟨(Nat.le_of_ble_eq_true rfl), (Nat.le_of_ble_eq_true rfl)⟩, ⟨(Nat.le_of_ble_eq_true rfl), (Nat.le_of_ble_eq_true rfl)⟩⟩ rfl rfl (Nat.le_of_ble_eq_true rfl) dX4_readCommand_110) (fun r hh n1 hpp => ?_)
          obtain ⟨rfl, hn, c_t, ff⟩ := hpp
          replace hn : n = n1 := Eq.symm hn
          subst hn
          replace b_t : bT k t y20.2 hh := c_t
          clear c_t
          replace ff : rx_fr [(t, 2)] _ hh := ff
          replace b_c := b_c.keep ff ⟨s_c_t, trivial⟩
          replace fr := rx_frt fr ff (fun a ha => ⟨ha.2.1, trivial⟩)
          refine rx_goto C dX4_readCommand_113 117 (by decide) ?_
          replace hF := rx_leE hF; obtain ⟨o_c_21, e_o_c_21, hF⟩ := hF
          refine rx_cv (rx_rSN C (w_put b_c.2.2.2.1 (by decide)) Y_X8_put S_X8_put m_X4_63 ⟨⟨rfl, rfl⟩, ⟨(Nat.le_of_ble_eq_true rfl), (Nat.le_of_ble_eq_true rfl)⟩, ⟨(Nat.le_of_ble_eq_true rfl), (Nat.le_of_ble_eq_true rfl)⟩⟩ rfl rfl (Nat.le_of_ble_eq_true rfl) dX4_readCommand_117) (fun hh n1 hpp => ?_)
          obtain ⟨c_c, ff, hn⟩ := b_c.wr2 e_o_c_21 hpp
          replace hn := Eq.symm hn
          subst hn
          replace b_c := c_c
          replace b_t := b_t.keep ff ⟨s_t_c, trivial⟩
          replace fr := rx_frt fr ff (fun a ha => ⟨ha.1, trivial⟩)
          refine rx_aload_n C dX4_readCommand_120 2 rfl ?_
          replace hF := rx_biE hF; obtain ⟨y22, e_y22, hF⟩ := hF
          refine rx_cv (rx_rVN C (w_X6_takeSemicolon e_y22 b_t) Y_X6_takeSemicolon V_X6_takeSemicolon m_X4_70 (Or.inl ⟨_, _, _, _, b_t.1, rfl⟩) ⟨⟨rfl, rfl⟩, ⟨(Nat.le_of_ble_eq_true rfl), (Nat.le_of_ble_eq_true rfl)⟩, ⟨(Nat.le_of_ble_eq_true rfl), (Nat.le_of_ble_eq_true rfl)⟩⟩ rfl rfl (Nat.le_of_ble_eq_true rfl) dX4_readCommand_121) (fun hh n1 hpp => ?_)
          obtain ⟨hn, c_t, ff⟩ := hpp
          replace hn : n = n1 := Eq.symm hn
          subst hn
          replace b_t : bT k t y22 hh := c_t
          clear c_t
          replace ff : rx_fr [(t, 2)] _ hh := ff
          replace b_c := b_c.keep ff ⟨s_c_t, trivial⟩
          replace fr := rx_frt fr ff (fun a ha => ⟨ha.2.1, trivial⟩)
          refine rx_aload_n C dX4_readCommand_124 1 rfl ?_
          refine rx_dup C dX4_readCommand_125 rfl ?_
          refine rx_getf C f_X4_24 dX4_readCommand_126 b_c.1 rfl ?_
          refine rx_iconst C dX4_readCommand_129 (1 : Int32) (by decide) ?_
          refine rx_iadd C dX4_readCommand_130 ?_
          replace hF := rx_leE hF; obtain ⟨o_c_23, e_o_c_23, hF⟩ := hF
          refine rx_pC3 C f_X4_24 dX4_readCommand_131 b_c e_o_c_23 (fun hh c_c ff => ?_)
          replace b_c := c_c
          replace b_t := b_t.keep ff ⟨s_t_c, trivial⟩
          replace fr := rx_frt fr ff (fun a ha => ⟨ha.1, trivial⟩)
          obtain rfl := Option.some.inj hF
          exact rx_vret C dX4_readCommand_134 (Nat.le_refl _) (Nat.le_refl _) ⟨rfl, b_c, b_t, fr⟩
      · rw [if_neg c6] at hF
        refine rx_aload_n C dX4_readCommand_36 2 rfl ?_
        refine rx_iconst C dX4_readCommand_37 (3 : Int32) (by decide) ?_
        replace hF := rx_biE hF; obtain ⟨y24, e_y24, hF⟩ := hF
        refine rx_cv (rx_rVN C (w_X6_fail e_y24 b_t) Y_X6_fail V_X6_fail m_X4_45 (Or.inl ⟨_, _, _, _, b_t.1, rfl⟩) ⟨⟨rfl, rfl⟩, ⟨(Nat.le_of_ble_eq_true rfl), (Nat.le_of_ble_eq_true rfl)⟩, ⟨(Nat.le_of_ble_eq_true rfl), (Nat.le_of_ble_eq_true rfl)⟩⟩ rfl rfl (Nat.le_of_ble_eq_true rfl) dX4_readCommand_38) (fun hh n1 hpp => ?_)
        obtain ⟨hn, c_t, ff⟩ := hpp
        replace hn : n = n1 := Eq.symm hn
        subst hn
        replace b_t : bT k t y24 hh := c_t
        clear c_t
        replace ff : rx_fr [(t, 2)] _ hh := ff
        replace b_c := b_c.keep ff ⟨s_c_t, trivial⟩
        replace fr := rx_frt fr ff (fun a ha => ⟨ha.2.1, trivial⟩)
        refine rx_goto C dX4_readCommand_41 134 (by decide) ?_
        obtain rfl := Option.some.inj hF
        exact rx_vret C dX4_readCommand_134 (Nat.le_refl _) (Nat.le_refl _) ⟨rfl, b_c, b_t, fr⟩
def F_X4_read_7 : Nat → obv → ob → Int32 → Option (Int32 × obv × ob)
  | 0, _, _, _ => none
  | fu + 1, oc, ot, x2 => if (20 : Int32) < x2 then (some (x2, oc, ot)) else ((F_X6_hasFailed ot).bind fun y5 => if y5 = (0 : Int32) then ((F_X6_isAtEnd ot).bind fun y7 => if y7 = (0 : Int32) then ((F_X4_readCommand oc ot).bind fun y9 => F_X4_read_7  fu y9.1 y9.2 ((x2 + 1))) else (some (x2, oc, ot))) else (some (x2, oc, ot)))
def F_X4_read (oc : obv) (ot : ob) : Option (obv × ob) := rx_le ((upd oc.1.1 3 ((0 : Int32)), oc.1.2), oc.2) fun o_c_1 => (F_X4_read_7  100000 o_c_1 ot ((0 : Int32))).bind fun zl10 => some (zl10.2.1, zl10.2.2)
set_option maxRecDepth 100000 in
set_option maxHeartbeats 4000000 in
theorem w_X4_read {c t : Nat} {oc : obv} {ot : ob} {y : obv × ob} (hF : F_X4_read oc ot = some y) (b_c : bC k c oc h) (b_t : bT k t ot h) (hd0 : c + 4 ≤ t ∨ t + 2 ≤ c) : Met l yX4_read (rx_ws yX4_read cX4_read 3 none) (rx_rm 7 151) (va_Pc [.ref c, .ref t] (rx_G G k h n)) (va_Qv (fun u => u.2 = n ∧ bC k c y.1 u.1 ∧ bT k t y.2 u.1 ∧ rx_fr [(c, 4), (t, 2)] h u.1) (rx_B G k) (rx_A k)) 0 0 (rx_A k) := by
  have s_t_c : t + 2 ≤ c ∨ c + 4 ≤ t := by omega
  refine rx_start [(0, .ref c), (1, .ref t)] rfl (Nat.le_of_ble_eq_true rfl) (by decide) rfl (fun P9 E9 S9 M9 A9 B9 me9 c9 C hname => ?_)
  unfold F_X4_read at hF
  have fr : rx_fr [(c, 4), (t, 2)] h h := rx_fr0
  refine rx_aload_n C dX4_read_0 0 rfl ?_
  refine rx_iconst C dX4_read_1 (0 : Int32) (by decide) ?_
  replace hF := rx_leE hF; obtain ⟨o_c_1, e_o_c_1, hF⟩ := hF
  refine rx_pC3 C f_X4_24 dX4_read_2 b_c e_o_c_1 (fun hh c_c ff => ?_)
  replace b_c := c_c
  replace b_t := b_t.keep ff ⟨s_t_c, trivial⟩
  replace fr := rx_frt fr ff (fun a ha => ⟨ha.1, trivial⟩)
  refine rx_iconst C dX4_read_5 (0 : Int32) (by decide) ?_
  refine rx_istore_n C dX4_read_6 (by decide) [(2, .int ((0 : Int32))), (0, .ref c), (1, .ref t)] rfl ?_
  have loop3 : ∀ (fu : Nat) (zz : Int32 × obv × ob) (oc : obv) (ot : ob) (x2 : Int32) (hh : hp), F_X4_read_7  fu oc ot x2 = some zz → bC k c oc hh → bT k t ot hh → rx_fr [(c, 4), (t, 2)] h hh → (∀ hh : hp, bC k c zz.2.1 hh → bT k t zz.2.2 hh → rx_fr [(c, 4), (t, 2)] h hh → rx_W P9 l E9 (rx_rm 7 151) S9 M9 A9 B9 me9 c9 (MQ B9 (va_Qv (fun u => u.2 = n ∧ bC k c y.1 u.1 ∧ bT k t y.2 u.1 ∧ rx_fr [(c, 4), (t, 2)] h u.1) (rx_B G k) (rx_A k)) A9 S9 0 0 (rx_A k)) G k 3 0 0 hh n 38 [(0, .ref c), (1, .ref t), (2, .int zz.1)] []) → rx_W P9 l E9 (rx_rm 7 151) S9 M9 A9 B9 me9 c9 (MQ B9 (va_Qv (fun u => u.2 = n ∧ bC k c y.1 u.1 ∧ bT k t y.2 u.1 ∧ rx_fr [(c, 4), (t, 2)] h u.1) (rx_B G k) (rx_A k)) A9 S9 0 0 (rx_A k)) G k 3 0 0 hh n 7 [(0, .ref c), (1, .ref t), (2, .int x2)] [] := by
    intro fu
    induction fu with
    | zero => intro zz oc ot x2 hh hF b_c b_t fr KK; exact absurd hF (by simp [F_X4_read_7])
    | succ fu ih_loop3 =>
      intro zz oc ot x2 hh hF b_c b_t fr KK
      unfold F_X4_read_7 at hF
      refine rx_iload_n C dX4_read_7 2 rfl ?_
      refine rx_bipush C dX4_read_8 (20 : Int32) (by decide) ?_
      refine rx_icmp_gt C dX4_read_10 38 (by decide) (fun c4 => ?_) (fun c4 => ?_)
      · rw [if_pos c4] at hF
        obtain rfl := Option.some.inj hF
        refine rx_sub [0, 1, 2] rfl ?_
        exact KK _ b_c b_t fr
      · rw [if_neg c4] at hF
        refine rx_aload_n C dX4_read_13 1 rfl ?_
        replace hF := rx_biE hF; obtain ⟨y5, e_y5, hF⟩ := hF
        refine rx_ci (rx_rVN C (w_X6_hasFailed e_y5 b_t) Y_X6_hasFailed V_X6_hasFailed m_X4_28 (Or.inl ⟨_, _, _, _, b_t.1, rfl⟩) ⟨⟨rfl, rfl⟩, ⟨(Nat.le_of_ble_eq_true rfl), (Nat.le_of_ble_eq_true rfl)⟩, ⟨(Nat.le_of_ble_eq_true rfl), (Nat.le_of_ble_eq_true rfl)⟩⟩ rfl rfl (Nat.le_of_ble_eq_true rfl) dX4_read_14) (fun r hh n1 hpp => ?_)
        obtain ⟨rfl, bo_y5, hu⟩ := hpp
        cases hu
        refine rx_if_ne C dX4_read_17 38 (by decide) (fun c6 => ?_) (fun c6 => ?_)
        · rw [if_neg c6] at hF
          obtain rfl := Option.some.inj hF
          refine rx_sub [0, 1, 2] rfl ?_
          exact KK _ b_c b_t fr
        · rw [if_pos c6] at hF
          refine rx_aload_n C dX4_read_20 1 rfl ?_
          replace hF := rx_biE hF; obtain ⟨y7, e_y7, hF⟩ := hF
          refine rx_ci (rx_rVN C (w_X6_isAtEnd e_y7 b_t) Y_X6_isAtEnd V_X6_isAtEnd m_X4_34 (Or.inl ⟨_, _, _, _, b_t.1, rfl⟩) ⟨⟨rfl, rfl⟩, ⟨(Nat.le_of_ble_eq_true rfl), (Nat.le_of_ble_eq_true rfl)⟩, ⟨(Nat.le_of_ble_eq_true rfl), (Nat.le_of_ble_eq_true rfl)⟩⟩ rfl rfl (Nat.le_of_ble_eq_true rfl) dX4_read_21) (fun r hh n1 hpp => ?_)
          obtain ⟨rfl, bo_y7, hu⟩ := hpp
          cases hu
          refine rx_if_ne C dX4_read_24 38 (by decide) (fun c8 => ?_) (fun c8 => ?_)
          · rw [if_neg c8] at hF
            obtain rfl := Option.some.inj hF
            refine rx_sub [0, 1, 2] rfl ?_
            exact KK _ b_c b_t fr
          · rw [if_pos c8] at hF
            refine rx_aload_n C dX4_read_27 0 rfl ?_
            refine rx_aload_n C dX4_read_28 1 rfl ?_
            replace hF := rx_biE hF; obtain ⟨y9, e_y9, hF⟩ := hF
            refine rx_cv (rx_rV C (w_X4_readCommand e_y9 b_c b_t (by omega)) Y_X4_readCommand V_X4_readCommand m_X4_37 (Or.inl ⟨_, _, _, _, b_c.1, rfl⟩) ⟨⟨rfl, rfl⟩, ⟨(Nat.le_of_ble_eq_true rfl), (Nat.le_of_ble_eq_true rfl)⟩, ⟨(Nat.le_of_ble_eq_true rfl), (Nat.le_of_ble_eq_true rfl)⟩⟩ rfl rfl (Nat.le_of_ble_eq_true rfl) dX4_read_29) (fun hh n1 hpp => ?_)
            obtain ⟨hn, c_c, c_t, ff⟩ := hpp
            replace hn : n = n1 := Eq.symm hn
            subst hn
            replace b_c : bC k c y9.1 hh := c_c
            clear c_c
            replace b_t : bT k t y9.2 hh := c_t
            clear c_t
            replace ff : rx_fr [(c, 4), (t, 2)] _ hh := ff
            replace fr := rx_frt fr ff (fun a ha => ⟨ha.1, ha.2.1, trivial⟩)
            refine rx_iinc C dX4_read_32 2 rfl (x2 + 1) rfl (by decide) [(2, .int ((x2 + 1))), (0, .ref c), (1, .ref t)] rfl ?_
            refine rx_goto C dX4_read_35 7 (by decide) ?_
            refine rx_sub [1, 2, 0] rfl ?_
            exact ih_loop3 _ _ _ _ _ hF b_c b_t fr KK
  refine rx_sub [1, 2, 0] rfl ?_
  replace hF := rx_biE hF; obtain ⟨zl10, e_zl10, hF⟩ := hF
  refine loop3 _ zl10 _ _ _ _ e_zl10 b_c b_t fr (fun hh b_c b_t fr => ?_)
  obtain rfl := Option.some.inj hF
  exact rx_vret C dX4_read_38 (Nat.le_refl _) (Nat.le_refl _) ⟨rfl, b_c, b_t, fr⟩
def F_X4_play_2 (oc : obv) (ost : ob) : Nat → ob → ob → ob → Int32 → Option (Int32 × ob × ob × ob)
  | 0, _, _, _, _ => none
  | fu + 1, op, ow, oe, x2 => if (oc.1.1 3) ≤ x2 then (some ((oc.1.1 3), op, ow, oe)) else (if (nI 20) ≤ x2 then (some ((oc.1.1 3), op, ow, oe)) else ((rx_vld oc.2 x2).bind fun yz5 => match yz5 with | none => (some (x2, op, ow, oe)) | some z6 => ((F_X2_faultOf op ow oe ost z6 ((rx_at 20 (oc.1.2 1) x2)) ((rx_at 20 (oc.1.2 2) x2))).bind fun y7 => if y7 = (0 : Int32) then ((F_X2_carryOut op ow oe ost z6 ((rx_at 20 (oc.1.2 1) x2)) ((rx_at 20 (oc.1.2 2) x2))).bind fun y9 => F_X4_play_2 oc ost fu y9.1 y9.2.1 y9.2.2 ((x2 + 1))) else (some (x2, op, ow, oe)))))
def F_X4_play (oc : obv) (op : ob) (ow : ob) (oe : ob) (ost : ob) : Option (Int32 × ob × ob × ob) := F_X4_play_2 oc ost 100000 op ow oe ((0 : Int32))
set_option maxRecDepth 100000 in
set_option maxHeartbeats 4000000 in
theorem w_X4_play {c q g : Nat} {oc : obv} {op : ob} {ow : ob} {oe : ob} {ost : ob} {y : Int32 × ob × ob × ob} (hF : F_X4_play oc op ow oe ost = some y) (b_c : bC k c oc h) (b_p : bP k q g op h) (b_w : bQ k (q + 10) ow h) (b_e : bQ k (q + 13) oe h) (b_st : bS k g ost h) (hd0 : c + 4 ≤ q ∨ q + 16 ≤ c) (hd1 : c + 4 ≤ g ∨ g + 9 ≤ c) (hd2 : q + 16 ≤ g ∨ g + 9 ≤ q) : Met l yX4_play (rx_ws yX4_play cX4_play 4 (some .int)) (rx_rm 6 140) (va_Pc [.ref c, .ref q] (rx_G G k h n)) (va_Qi (fun r u => y.1 = r ∧ u.2 = n ∧ bP k q g y.2.1 u.1 ∧ bQ k (q + 10) y.2.2.1 u.1 ∧ bQ k (q + 13) y.2.2.2 u.1 ∧ rx_fr [(q, 10), (q + 10, 3), (q + 13, 3)] h u.1) (rx_B G k) (rx_A k)) 0 0 (rx_A k) := by
  have s_c_p : c + 4 ≤ q ∨ q + 10 ≤ c := by omega
  have s_c_w : c + 4 ≤ q + 10 ∨ q + 10 + 3 ≤ c := by omega
  have s_c_e : c + 4 ≤ q + 13 ∨ q + 13 + 3 ≤ c := by omega
  have s_st_p : g + 9 ≤ q ∨ q + 10 ≤ g := by omega
  have s_st_w : g + 9 ≤ q + 10 ∨ q + 10 + 3 ≤ g := by omega
  have s_st_e : g + 9 ≤ q + 13 ∨ q + 13 + 3 ≤ g := by omega
  refine rx_start [(0, .ref c), (1, .ref q)] rfl (Nat.le_of_ble_eq_true rfl) (by decide) rfl (fun P9 E9 S9 M9 A9 B9 me9 c9 C hname => ?_)
  unfold F_X4_play at hF
  have fr : rx_fr [(q, 10), (q + 10, 3), (q + 13, 3)] h h := rx_fr0
  refine rx_iconst C dX4_play_0 (0 : Int32) (by decide) ?_
  refine rx_istore_n C dX4_play_1 (by decide) [(2, .int ((0 : Int32))), (0, .ref c), (1, .ref q)] rfl ?_
  have loop2 : ∀ (fu : Nat) (op : ob) (ow : ob) (oe : ob) (x2 : Int32) (hh : hp), F_X4_play_2 oc ost fu op ow oe x2 = some y → bP k q g op hh → bQ k (q + 10) ow hh → bQ k (q + 13) oe hh → bC k c oc hh → bS k g ost hh → rx_fr [(q, 10), (q + 10, 3), (q + 13, 3)] h hh → rx_W P9 l E9 (rx_rm 6 140) S9 M9 A9 B9 me9 c9 (MQ B9 (va_Qi (fun r u => y.1 = r ∧ u.2 = n ∧ bP k q g y.2.1 u.1 ∧ bQ k (q + 10) y.2.2.1 u.1 ∧ bQ k (q + 13) y.2.2.2 u.1 ∧ rx_fr [(q, 10), (q + 10, 3), (q + 13, 3)] h u.1) (rx_B G k) (rx_A k)) A9 S9 0 0 (rx_A k)) G k 4 0 0 hh n 2 [(0, .ref c), (1, .ref q), (2, .int x2)] [] := by
    intro fu
    induction fu with
    | zero => intro op ow oe x2 hh hF b_p b_w b_e b_c b_st fr; exact absurd hF (by simp [F_X4_play_2])
    | succ fu ih_loop2 =>
      intro op ow oe x2 hh hF b_p b_w b_e b_c b_st fr
      unfold F_X4_play_2 at hF
      refine rx_iload_n C dX4_play_2 2 rfl ?_
      refine rx_aload_n C dX4_play_3 0 rfl ?_
      refine rx_getf C f_X4_24 dX4_play_4 b_c.1 rfl ?_
      refine rx_icmp_ge C dX4_play_7 83 (by decide) (fun c3 => ?_) (fun c3 => ?_)
      · rw [if_pos c3] at hF
        refine rx_aload_n C dX4_play_83 0 rfl ?_
        refine rx_getf C f_X4_24 dX4_play_84 b_c.1 rfl ?_
        obtain rfl := Option.some.inj hF
        exact rx_iret C dX4_play_87 (Nat.le_refl _) (Nat.le_refl _) ⟨rfl, rfl, b_p, b_w, b_e, fr⟩
      · rw [if_neg c3] at hF
        refine rx_iload_n C dX4_play_10 2 rfl ?_
        refine rx_aload_n C dX4_play_11 0 rfl ?_
        refine rx_getf C f_X4_11 dX4_play_12 b_c.1 rfl ?_
        refine rx_alen C 3 rfl dX4_play_15 b_c.2.1 ?_
        refine rx_icmp_ge C dX4_play_16 83 (by decide) (fun c4 => ?_) (fun c4 => ?_)
        · rw [if_pos c4] at hF
          refine rx_aload_n C dX4_play_83 0 rfl ?_
          refine rx_getf C f_X4_24 dX4_play_84 b_c.1 rfl ?_
          obtain rfl := Option.some.inj hF
          exact rx_iret C dX4_play_87 (Nat.le_refl _) (Nat.le_refl _) ⟨rfl, rfl, b_p, b_w, b_e, fr⟩
        · rw [if_neg c4] at hF
          refine rx_aload_n C dX4_play_19 0 rfl ?_
          refine rx_getf C f_X4_11 dX4_play_20 b_c.1 rfl ?_
          refine rx_iload_n C dX4_play_23 2 rfl ?_
          replace hF := rx_biE hF; obtain ⟨yz5, e_yz5, hF⟩ := hF
          refine rx_vald C dX4_play_24 b_c e_yz5 ?_
          have hq_yz5 := (rx_vldE b_c e_yz5)
          rcases yz5 with _ | z6
          · dsimp only at hF
            show rx_W _ _ _ _ _ _ _ _ _ _ _ _ _ _ _ _ _ _ _ _ (.null :: _)
            refine rx_astore_nN C dX4_play_25 (by decide) [(3, .null), (0, .ref c), (1, .ref q), (2, .int x2)] rfl ?_
            refine rx_aload_nN C dX4_play_26 0 rfl ?_
            refine rx_ifnullN C dX4_play_27 54 (by decide) ?_
            refine rx_iload_n C dX4_play_54 3 rfl ?_
            obtain rfl := Option.some.inj hF
            exact rx_iret C dX4_play_55 (Nat.le_refl _) (Nat.le_refl _) ⟨rfl, rfl, b_p, b_w, b_e, fr⟩
          · dsimp only at hF
            have hz_z6 : z6 < 9 := hq_yz5 _ rfl
            show rx_W _ _ _ _ _ _ _ _ _ _ _ _ _ _ _ _ _ _ _ _ (.ref (k (10 + z6)) :: _)
            refine rx_astore_n C dX4_play_25 (by decide) [(3, .ref (k (10 + z6))), (0, .ref c), (1, .ref q), (2, .int x2)] rfl ?_
            refine rx_aload_n C dX4_play_26 0 rfl ?_
            refine rx_ifnull C dX4_play_27 ?_
            refine rx_aload_n C dX4_play_30 2 rfl ?_
            refine rx_aload_n C dX4_play_31 0 rfl ?_
            refine rx_aload_n C dX4_play_32 1 rfl ?_
            refine rx_getf C f_X4_17 dX4_play_33 b_c.1 rfl ?_
            refine rx_iload_n C dX4_play_36 3 rfl ?_
            refine rx_ci (rx_rSN C (w_at b_c.2.2.1 (by decide)) Y_X8_at S_X8_at m_X4_73 ⟨⟨rfl, rfl⟩, ⟨(Nat.le_of_ble_eq_true rfl), (Nat.le_of_ble_eq_true rfl)⟩, ⟨(Nat.le_of_ble_eq_true rfl), (Nat.le_of_ble_eq_true rfl)⟩⟩ rfl rfl (Nat.le_of_ble_eq_true rfl) dX4_play_37) (fun r hh n1 hpp => ?_)
            obtain ⟨rfl, hu⟩ := hpp
            cases hu
            refine rx_aload_n C dX4_play_40 1 rfl ?_
            refine rx_getf C f_X4_21 dX4_play_41 b_c.1 rfl ?_
            refine rx_iload_n C dX4_play_44 3 rfl ?_
            refine rx_ci (rx_rSN C (w_at b_c.2.2.2.1 (by decide)) Y_X8_at S_X8_at m_X4_73 ⟨⟨rfl, rfl⟩, ⟨(Nat.le_of_ble_eq_true rfl), (Nat.le_of_ble_eq_true rfl)⟩, ⟨(Nat.le_of_ble_eq_true rfl), (Nat.le_of_ble_eq_true rfl)⟩⟩ rfl rfl (Nat.le_of_ble_eq_true rfl) dX4_play_45) (fun r hh n1 hpp => ?_)
            obtain ⟨rfl, hu⟩ := hpp
            cases hu
            replace hF := rx_biE hF; obtain ⟨y7, e_y7, hF⟩ := hF
            refine rx_ci (rx_rVN C (w_X2_faultOf e_y7 b_p b_w b_e b_st hz_z6 (by omega)) Y_X2_faultOf V_X2_faultOf m_X4_77 (Or.inl ⟨_, _, _, _, b_p.1, rfl⟩) ⟨⟨rfl, rfl⟩, ⟨(Nat.le_of_ble_eq_true rfl), (Nat.le_of_ble_eq_true rfl)⟩, ⟨(Nat.le_of_ble_eq_true rfl), (Nat.le_of_ble_eq_true rfl)⟩⟩ rfl rfl (Nat.le_of_ble_eq_true rfl) dX4_play_48) (fun r hh n1 hpp => ?_)
            obtain ⟨rfl, hu⟩ := hpp
            cases hu
            refine rx_if_eq C dX4_play_51 56 (by decide) (fun c8 => ?_) (fun c8 => ?_)
            · rw [if_pos c8] at hF
              refine rx_aload_n C dX4_play_56 2 rfl ?_
              refine rx_aload_n C dX4_play_57 0 rfl ?_
              refine rx_aload_n C dX4_play_58 1 rfl ?_
              refine rx_getf C f_X4_17 dX4_play_59 b_c.1 rfl ?_
              refine rx_iload_n C dX4_play_62 3 rfl ?_
              refine rx_ci (rx_rSN C (w_at b_c.2.2.1 (by decide)) Y_X8_at S_X8_at m_X4_73 ⟨⟨rfl, rfl⟩, ⟨(Nat.le_of_ble_eq_true rfl), (Nat.le_of_ble_eq_true rfl)⟩, ⟨(Nat.le_of_ble_eq_true rfl), (Nat.le_of_ble_eq_true rfl)⟩⟩ rfl rfl (Nat.le_of_ble_eq_true rfl) dX4_play_63) (fun r hh n1 hpp => ?_)
              obtain ⟨rfl, hu⟩ := hpp
              cases hu
              refine rx_aload_n C dX4_play_66 1 rfl ?_
              refine rx_getf C f_X4_21 dX4_play_67 b_c.1 rfl ?_
              refine rx_iload_n C dX4_play_70 3 rfl ?_
              refine rx_ci (rx_rSN C (w_at b_c.2.2.2.1 (by decide)) Y_X8_at S_X8_at m_X4_73 ⟨⟨rfl, rfl⟩, ⟨(Nat.le_of_ble_eq_true rfl), (Nat.le_of_ble_eq_true rfl)⟩, ⟨(Nat.le_of_ble_eq_true rfl), (Nat.le_of_ble_eq_true rfl)⟩⟩ rfl rfl (Nat.le_of_ble_eq_true rfl) dX4_play_71) (fun r hh n1 hpp => ?_)
              obtain ⟨rfl, hu⟩ := hpp
              cases hu
              replace hF := rx_biE hF; obtain ⟨y9, e_y9, hF⟩ := hF
              refine rx_cv (rx_rVN C (w_X2_carryOut e_y9 b_p b_w b_e b_st hz_z6 (by omega)) Y_X2_carryOut V_X2_carryOut m_X4_83 (Or.inl ⟨_, _, _, _, b_p.1, rfl⟩) ⟨⟨rfl, rfl⟩, ⟨(Nat.le_of_ble_eq_true rfl), (Nat.le_of_ble_eq_true rfl)⟩, ⟨(Nat.le_of_ble_eq_true rfl), (Nat.le_of_ble_eq_true rfl)⟩⟩ rfl rfl (Nat.le_of_ble_eq_true rfl) dX4_play_74) (fun hh n1 hpp => ?_)
              obtain ⟨hn, c_p, c_w, c_e, ff⟩ := hpp
              replace hn : n = n1 := Eq.symm hn
              subst hn
              replace b_p : bP k q g y9.1 hh := c_p
              clear c_p
              replace b_w : bQ k (q + 10) y9.2.1 hh := c_w
              clear c_w
              replace b_e : bQ k (q + 13) y9.2.2 hh := c_e
              clear c_e
              replace ff : rx_fr [(q, 10), (q + 10, 3), (q + 13, 3)] _ hh := ff
              replace b_c := b_c.keep ff ⟨s_c_p, s_c_w, s_c_e, trivial⟩
              replace b_st := b_st.keep ff ⟨s_st_p, s_st_w, s_st_e, trivial⟩
              replace fr := rx_frt fr ff (fun a ha => ⟨ha.1, ha.2.1, ha.2.2.1, trivial⟩)
              refine rx_iinc C dX4_play_77 3 rfl (x2 + 1) rfl (by decide) [(2, .int ((x2 + 1))), (3, .ref (k (10 + z6))), (0, .ref c), (1, .ref q)] rfl ?_
              refine rx_goto C dX4_play_80 2 (by decide) ?_
              refine rx_sub [2, 3, 0] rfl ?_
              exact ih_loop2 _ _ _ _ _ hF b_p b_w b_e b_c b_st fr
            · rw [if_neg c8] at hF
              refine rx_iload_n C dX4_play_54 3 rfl ?_
              obtain rfl := Option.some.inj hF
              exact rx_iret C dX4_play_55 (Nat.le_refl _) (Nat.le_refl _) ⟨rfl, rfl, b_p, b_w, b_e, fr⟩
  refine rx_sub [1, 2, 0] rfl ?_
  exact loop2 _ _ _ _ _ _ hF b_p b_w b_e b_c b_st fr
end GEN
